section
/-! ===== BEGIN words of one list among another's, by their places ===== -/
theorem goodIn_r {big : List Cond} (ws : List Cond) (ps : List Nat) (hp : ws = ps.filterMap (fun i => big[i]?)) (h : ws.all goodWord = true) : GoodIn big ws := by
  intro w hw
  have h1 := List.all_eq_true.mp h w hw
  rw [hp] at hw
  obtain ⟨i, -, hi⟩ := List.mem_filterMap.mp hw
  have hm : w ∈ big := by first | exact List.mem_of_getElem? hi | exact List.getElem?_mem hi
  exact ⟨hm, good_of_word h1⟩
theorem goodIn_app {big a b : List Cond} (ha : GoodIn big a) (hb : GoodIn big b) : GoodIn big (a ++ b) := fun w h => (List.mem_append.mp h).elim (ha w) (hb w)
theorem goodIn_ca {big a b : List Cond} {c : Cond} (ha : GoodIn big (c :: a)) (hb : GoodIn big b) : GoodIn big (c :: (a ++ b)) := fun w h => (List.mem_cons.mp h).elim (fun e => ha w (List.mem_cons.mpr (Or.inl e))) (fun h => (List.mem_append.mp h).elim (fun h => ha w (List.mem_cons.mpr (Or.inr h))) (hb w))
theorem goodIn_sub {big ws : List Cond} (hm : ∀ w ∈ ws, w ∈ big) (h : ws.all goodWord = true) : GoodIn big ws := fun w hw => ⟨hm w hw, good_of_word (List.all_eq_true.mp h w hw)⟩
/-! ===== END ===== -/

/-! ===== BEGIN printed: names, fields, word lists, decode rows ===== -/
def RX0 : String := "CoughLamps$History"
def TX0 : u_T := fun k => match k with
  | 0 => ("CoughLamps$History", "states", "[LCoughLamps$Street;", true)
  | 1 => ("CoughLamps$History", "draftPlace", "I", false)
  | _ => ("CoughLamps$History", "size", "I", false)
def tyX0 : Nat → FieldType := fun k => match k with
  | 0 => .array (.object "CoughLamps$Street")
  | 1 => .int
  | _ => .int
abbrev wsX00 : List Cond := u_ws RX0 TX0 3
theorem nmX0 : ∀ a, a < 3 → ∀ b, b < 3 → a ≠ b → (TX0 a).2.1 ≠ (TX0 b).2.1 := by decide +kernel
theorem tyX0_ok : ∀ k, k < 3 → parseFieldDescriptor (TX0 k).2.2.1 = some (tyX0 k) := by decide +kernel
abbrev cX0_init : ByteArray := prog_2_method_1_code
def yX0_init : MethodName := ⟨RX0, "<init>", "()V"⟩
abbrev cX0_draft : ByteArray := prog_2_method_2_code
def yX0_draft : MethodName := ⟨RX0, "draft", "(LCoughLamps$Street;)V"⟩
abbrev cX0_keepUnlessError : ByteArray := prog_2_method_3_code
def yX0_keepUnlessError : MethodName := ⟨RX0, "keepUnlessError", "(I)I"⟩
abbrev cX0_takeBack : ByteArray := prog_2_method_4_code
def yX0_takeBack : MethodName := ⟨RX0, "takeBack", "(LCoughLamps$Street;)I"⟩
def RX1 : String := "CoughLamps$House"
def TX1 : u_T := fun k => match k with
  | 0 => ("CoughLamps$House", "step", "I", false)
  | _ => ("CoughLamps$House", "disturbed", "I", false)
def tyX1 : Nat → FieldType := fun k => match k with
  | 0 => .int
  | _ => .int
abbrev wsX10 : List Cond := u_ws RX1 TX1 2
theorem nmX1 : ∀ a, a < 2 → ∀ b, b < 2 → a ≠ b → (TX1 a).2.1 ≠ (TX1 b).2.1 := by decide +kernel
theorem tyX1_ok : ∀ k, k < 2 → parseFieldDescriptor (TX1 k).2.2.1 = some (tyX1 k) := by decide +kernel
abbrev cX1_init : ByteArray := prog_3_method_1_code
def yX1_init : MethodName := ⟨RX1, "<init>", "()V"⟩
abbrev cX1_place : ByteArray := prog_3_method_2_code
def yX1_place : MethodName := ⟨RX1, "place", "(I)V"⟩
abbrev cX1_copyFrom : ByteArray := prog_3_method_3_code
def yX1_copyFrom : MethodName := ⟨RX1, "copyFrom", "(LCoughLamps$House;)V"⟩
def RX2 : String := "CoughLamps$Lamp"
def TX2 : u_T := fun k => match k with
  | 0 => ("CoughLamps$Lamp", "step", "I", false)
  | 1 => ("CoughLamps$Lamp", "shine", "I", false)
  | 2 => ("CoughLamps$Lamp", "does", "I", false)
  | 3 => ("CoughLamps$Lamp", "how", "I", false)
  | 4 => ("CoughLamps$Lamp", "left", "I", false)
  | 5 => ("CoughLamps$Lamp", "wait", "I", false)
  | 6 => ("CoughLamps$Lamp", "rank", "I", false)
  | 7 => ("CoughLamps$Lamp", "light", "I", false)
  | 8 => ("CoughLamps$Lamp", "coughs", "I", false)
  | 9 => ("CoughLamps$Lamp", "heard", "I", false)
  | 10 => ("CoughLamps$Lamp", "blamed", "I", false)
  | 11 => ("CoughLamps$Lamp", "anew", "Z", false)
  | _ => ("CoughLamps$Lamp", "coughed", "Z", false)
def tyX2 : Nat → FieldType := fun k => match k with
  | 0 => .int
  | 1 => .int
  | 2 => .int
  | 3 => .int
  | 4 => .int
  | 5 => .int
  | 6 => .int
  | 7 => .int
  | 8 => .int
  | 9 => .int
  | 10 => .int
  | 11 => .boolean
  | _ => .boolean
abbrev wsX20 : List Cond := u_ws RX2 TX2 13
theorem nmX2 : ∀ a, a < 13 → ∀ b, b < 13 → a ≠ b → (TX2 a).2.1 ≠ (TX2 b).2.1 := by decide +kernel
theorem tyX2_ok : ∀ k, k < 13 → parseFieldDescriptor (TX2 k).2.2.1 = some (tyX2 k) := by decide +kernel
abbrev cX2_init : ByteArray := prog_4_method_1_code
def yX2_init : MethodName := ⟨RX2, "<init>", "()V"⟩
abbrev cX2_place : ByteArray := prog_4_method_2_code
def yX2_place : MethodName := ⟨RX2, "place", "(II)V"⟩
abbrev cX2_copyFrom : ByteArray := prog_4_method_3_code
def yX2_copyFrom : MethodName := ⟨RX2, "copyFrom", "(LCoughLamps$Lamp;)V"⟩
abbrev cX2_forgetTick : ByteArray := prog_4_method_4_code
def yX2_forgetTick : MethodName := ⟨RX2, "forgetTick", "()V"⟩
abbrev cX2_distanceTo : ByteArray := prog_4_method_5_code
def yX2_distanceTo : MethodName := ⟨RX2, "distanceTo", "(I)I"⟩
abbrev cX2_lights : ByteArray := prog_4_method_6_code
def yX2_lights : MethodName := ⟨RX2, "lights", "(I)Z"⟩
abbrev cX2_disturbs : ByteArray := prog_4_method_7_code
def yX2_disturbs : MethodName := ⟨RX2, "disturbs", "(I)Z"⟩
abbrev cX2_wake : ByteArray := prog_4_method_8_code
def yX2_wake : MethodName := ⟨RX2, "wake", "(I)V"⟩
abbrev cX2_hear : ByteArray := prog_4_method_9_code
def yX2_hear : MethodName := ⟨RX2, "hear", "(I[I)V"⟩
abbrev cX2_takeTurn : ByteArray := prog_4_method_10_code
def yX2_takeTurn : MethodName := ⟨RX2, "takeTurn", "()V"⟩
abbrev cX2_fade : ByteArray := prog_4_method_11_code
def yX2_fade : MethodName := ⟨RX2, "fade", "(I)V"⟩
abbrev cX2_useLight : ByteArray := prog_4_method_12_code
def yX2_useLight : MethodName := ⟨RX2, "useLight", "()V"⟩
abbrev cX2_becomes : ByteArray := prog_4_method_13_code
def yX2_becomes : MethodName := ⟨RX2, "becomes", "(I)V"⟩
abbrev cX2_tell : ByteArray := prog_4_method_14_code
def yX2_tell : MethodName := ⟨RX2, "tell", "(I)I"⟩
def RX3 : String := "CoughLamps$Pad"
def TX3 : u_T := fun k => match k with
  | 0 => ("CoughLamps$Pad", "signs", "[C", true)
  | 1 => ("CoughLamps$Pad", "numbers", "[I", true)
  | 2 => ("CoughLamps$Pad", "length", "I", false)
  | 3 => ("CoughLamps$Pad", "at", "I", false)
  | 4 => ("CoughLamps$Pad", "numberCount", "I", false)
  | _ => ("CoughLamps$Pad", "kind", "I", false)
def tyX3 : Nat → FieldType := fun k => match k with
  | 0 => .array .char
  | 1 => .array .int
  | 2 => .int
  | 3 => .int
  | 4 => .int
  | _ => .int
abbrev wsX30 : List Cond := u_ws RX3 TX3 6
theorem nmX3 : ∀ a, a < 6 → ∀ b, b < 6 → a ≠ b → (TX3 a).2.1 ≠ (TX3 b).2.1 := by decide +kernel
theorem tyX3_ok : ∀ k, k < 6 → parseFieldDescriptor (TX3 k).2.2.1 = some (tyX3 k) := by decide +kernel
abbrev cX3_init : ByteArray := prog_5_method_1_code
def yX3_init : MethodName := ⟨RX3, "<init>", "()V"⟩
abbrev cX3_append : ByteArray := prog_5_method_2_code
def yX3_append : MethodName := ⟨RX3, "append", "(C)V"⟩
abbrev cX3_clear : ByteArray := prog_5_method_3_code
def yX3_clear : MethodName := ⟨RX3, "clear", "()V"⟩
abbrev cX3_rewind : ByteArray := prog_5_method_4_code
def yX3_rewind : MethodName := ⟨RX3, "rewind", "()V"⟩
abbrev cX3_firstFault : ByteArray := prog_5_method_5_code
def yX3_firstFault : MethodName := ⟨RX3, "firstFault", "()I"⟩
abbrev cX3_readNextOrder : ByteArray := prog_5_method_6_code
def yX3_readNextOrder : MethodName := ⟨RX3, "readNextOrder", "()Z"⟩
abbrev cX3_readOrder : ByteArray := prog_5_method_7_code
def yX3_readOrder : MethodName := ⟨RX3, "readOrder", "()Z"⟩
abbrev cX3_readGoals : ByteArray := prog_5_method_8_code
def yX3_readGoals : MethodName := ⟨RX3, "readGoals", "()Z"⟩
abbrev cX3_readMode : ByteArray := prog_5_method_9_code
def yX3_readMode : MethodName := ⟨RX3, "readMode", "()Z"⟩
abbrev cX3_readNumber : ByteArray := prog_5_method_10_code
def yX3_readNumber : MethodName := ⟨RX3, "readNumber", "()Z"⟩
abbrev cX3_readSign : ByteArray := prog_5_method_11_code
def yX3_readSign : MethodName := ⟨RX3, "readSign", "(C)Z"⟩
abbrev cX3_keepNumber : ByteArray := prog_5_method_12_code
def yX3_keepNumber : MethodName := ⟨RX3, "keepNumber", "(I)V"⟩
abbrev cX3_sign : ByteArray := prog_5_method_13_code
def yX3_sign : MethodName := ⟨RX3, "sign", "()C"⟩
abbrev cX3_isDigit : ByteArray := prog_5_method_14_code
def yX3_isDigit : MethodName := ⟨RX3, "isDigit", "(C)Z"⟩
def RX4 : String := "CoughLamps$Street"
def TX4 : u_T := fun k => match k with
  | 0 => ("CoughLamps$Street", "settings", "[I", true)
  | 1 => ("CoughLamps$Street", "lamps", "[LCoughLamps$Lamp;", true)
  | 2 => ("CoughLamps$Street", "houses", "[LCoughLamps$House;", true)
  | 3 => ("CoughLamps$Street", "walkers", "[LCoughLamps$Walker;", true)
  | 4 => ("CoughLamps$Street", "lampCount", "I", false)
  | 5 => ("CoughLamps$Street", "houseCount", "I", false)
  | 6 => ("CoughLamps$Street", "walkerCount", "I", false)
  | _ => ("CoughLamps$Street", "tick", "I", false)
def tyX4 : Nat → FieldType := fun k => match k with
  | 0 => .array .int
  | 1 => .array (.object "CoughLamps$Lamp")
  | 2 => .array (.object "CoughLamps$House")
  | 3 => .array (.object "CoughLamps$Walker")
  | 4 => .int
  | 5 => .int
  | 6 => .int
  | _ => .int
abbrev wsX40 : List Cond := u_ws RX4 TX4 8
theorem nmX4 : ∀ a, a < 8 → ∀ b, b < 8 → a ≠ b → (TX4 a).2.1 ≠ (TX4 b).2.1 := by decide +kernel
theorem tyX4_ok : ∀ k, k < 8 → parseFieldDescriptor (TX4 k).2.2.1 = some (tyX4 k) := by decide +kernel
abbrev cX4_init : ByteArray := prog_6_method_1_code
def yX4_init : MethodName := ⟨RX4, "<init>", "()V"⟩
abbrev cX4_become : ByteArray := prog_6_method_2_code
def yX4_become : MethodName := ⟨RX4, "become", "(LCoughLamps$Street;)V"⟩
abbrev cX4_hasLamp : ByteArray := prog_6_method_3_code
def yX4_hasLamp : MethodName := ⟨RX4, "hasLamp", "(I)Z"⟩
abbrev cX4_hasHouse : ByteArray := prog_6_method_4_code
def yX4_hasHouse : MethodName := ⟨RX4, "hasHouse", "(I)Z"⟩
abbrev cX4_hasWalker : ByteArray := prog_6_method_5_code
def yX4_hasWalker : MethodName := ⟨RX4, "hasWalker", "(I)Z"⟩
abbrev cX4_changeSetting : ByteArray := prog_6_method_6_code
def yX4_changeSetting : MethodName := ⟨RX4, "changeSetting", "(II)I"⟩
abbrev cX4_addLamp : ByteArray := prog_6_method_7_code
def yX4_addLamp : MethodName := ⟨RX4, "addLamp", "(II)I"⟩
abbrev cX4_addHouse : ByteArray := prog_6_method_8_code
def yX4_addHouse : MethodName := ⟨RX4, "addHouse", "(I)I"⟩
abbrev cX4_addWalker : ByteArray := prog_6_method_9_code
def yX4_addWalker : MethodName := ⟨RX4, "addWalker", "(II)I"⟩
abbrev cX4_giveGoal : ByteArray := prog_6_method_10_code
def yX4_giveGoal : MethodName := ⟨RX4, "giveGoal", "(III)I"⟩
abbrev cX4_mendLamp : ByteArray := prog_6_method_11_code
def yX4_mendLamp : MethodName := ⟨RX4, "mendLamp", "(II)I"⟩
abbrev cX4_coughByOrder : ByteArray := prog_6_method_12_code
def yX4_coughByOrder : MethodName := ⟨RX4, "coughByOrder", "(I)I"⟩
abbrev cX4_letPass : ByteArray := prog_6_method_13_code
def yX4_letPass : MethodName := ⟨RX4, "letPass", "(I)I"⟩
abbrev cX4_forgetLastTick : ByteArray := prog_6_method_14_code
def yX4_forgetLastTick : MethodName := ⟨RX4, "forgetLastTick", "()V"⟩
abbrev cX4_moveWalkers : ByteArray := prog_6_method_15_code
def yX4_moveWalkers : MethodName := ⟨RX4, "moveWalkers", "()V"⟩
abbrev cX4_coughThoseWhoWaited : ByteArray := prog_6_method_16_code
def yX4_coughThoseWhoWaited : MethodName := ⟨RX4, "coughThoseWhoWaited", "()V"⟩
abbrev cX4_wakeThoseWhoSee : ByteArray := prog_6_method_17_code
def yX4_wakeThoseWhoSee : MethodName := ⟨RX4, "wakeThoseWhoSee", "()V"⟩
abbrev cX4_seesWalker : ByteArray := prog_6_method_18_code
def yX4_seesWalker : MethodName := ⟨RX4, "seesWalker", "(LCoughLamps$Lamp;)Z"⟩
abbrev cX4_fadeLamps : ByteArray := prog_6_method_19_code
def yX4_fadeLamps : MethodName := ⟨RX4, "fadeLamps", "()V"⟩
abbrev cX4_tally : ByteArray := prog_6_method_20_code
def yX4_tally : MethodName := ⟨RX4, "tally", "()V"⟩
abbrev cX4_blameNearest : ByteArray := prog_6_method_21_code
def yX4_blameNearest : MethodName := ⟨RX4, "blameNearest", "(I)V"⟩
abbrev cX4_spreadCough : ByteArray := prog_6_method_22_code
def yX4_spreadCough : MethodName := ⟨RX4, "spreadCough", "(II)I"⟩
abbrev cX4_hears : ByteArray := prog_6_method_23_code
def yX4_hears : MethodName := ⟨RX4, "hears", "(II)Z"⟩
abbrev cX4_lampsThatHear : ByteArray := prog_6_method_24_code
def yX4_lampsThatHear : MethodName := ⟨RX4, "lampsThatHear", "(I)I"⟩
abbrev cX4_hasLampsApart : ByteArray := prog_6_method_25_code
def yX4_hasLampsApart : MethodName := ⟨RX4, "hasLampsApart", "(I)Z"⟩
abbrev cX4_lampsThatAre : ByteArray := prog_6_method_26_code
def yX4_lampsThatAre : MethodName := ⟨RX4, "lampsThatAre", "(I)I"⟩
abbrev cX4_lampsThatLight : ByteArray := prog_6_method_27_code
def yX4_lampsThatLight : MethodName := ⟨RX4, "lampsThatLight", "(I)I"⟩
abbrev cX4_walkersInStreet : ByteArray := prog_6_method_28_code
def yX4_walkersInStreet : MethodName := ⟨RX4, "walkersInStreet", "()I"⟩
abbrev cX4_isDisturbed : ByteArray := prog_6_method_29_code
def yX4_isDisturbed : MethodName := ⟨RX4, "isDisturbed", "(LCoughLamps$House;)Z"⟩
abbrev cX4_tellOfHouse : ByteArray := prog_6_method_30_code
def yX4_tellOfHouse : MethodName := ⟨RX4, "tellOfHouse", "(LCoughLamps$House;I)I"⟩
abbrev cX4_tellOfWalker : ByteArray := prog_6_method_31_code
def yX4_tellOfWalker : MethodName := ⟨RX4, "tellOfWalker", "(LCoughLamps$Walker;I)I"⟩
abbrev cX4_total : ByteArray := prog_6_method_32_code
def yX4_total : MethodName := ⟨RX4, "total", "(I)I"⟩
abbrev cX4_darkTicks : ByteArray := prog_6_method_33_code
def yX4_darkTicks : MethodName := ⟨RX4, "darkTicks", "()I"⟩
abbrev cX4_lightUnits : ByteArray := prog_6_method_34_code
def yX4_lightUnits : MethodName := ⟨RX4, "lightUnits", "()I"⟩
abbrev cX4_disturbedTicks : ByteArray := prog_6_method_35_code
def yX4_disturbedTicks : MethodName := ⟨RX4, "disturbedTicks", "()I"⟩
abbrev cX4_coughsSoFar : ByteArray := prog_6_method_36_code
def yX4_coughsSoFar : MethodName := ⟨RX4, "coughsSoFar", "()I"⟩
def RX5 : String := "CoughLamps$Walker"
def TX5 : u_T := fun k => match k with
  | 0 => ("CoughLamps$Walker", "goalSteps", "[I", true)
  | 1 => ("CoughLamps$Walker", "goalPauses", "[I", true)
  | 2 => ("CoughLamps$Walker", "goals", "I", false)
  | 3 => ("CoughLamps$Walker", "step", "I", false)
  | 4 => ("CoughLamps$Walker", "pace", "I", false)
  | 5 => ("CoughLamps$Walker", "home", "Z", false)
  | 6 => ("CoughLamps$Walker", "rested", "I", false)
  | 7 => ("CoughLamps$Walker", "dark", "I", false)
  | _ => ("CoughLamps$Walker", "walked", "I", false)
def tyX5 : Nat → FieldType := fun k => match k with
  | 0 => .array .int
  | 1 => .array .int
  | 2 => .int
  | 3 => .int
  | 4 => .int
  | 5 => .boolean
  | 6 => .int
  | 7 => .int
  | _ => .int
abbrev wsX50 : List Cond := u_ws RX5 TX5 9
theorem nmX5 : ∀ a, a < 9 → ∀ b, b < 9 → a ≠ b → (TX5 a).2.1 ≠ (TX5 b).2.1 := by decide +kernel
theorem tyX5_ok : ∀ k, k < 9 → parseFieldDescriptor (TX5 k).2.2.1 = some (tyX5 k) := by decide +kernel
abbrev cX5_init : ByteArray := prog_7_method_1_code
def yX5_init : MethodName := ⟨RX5, "<init>", "()V"⟩
abbrev cX5_place : ByteArray := prog_7_method_2_code
def yX5_place : MethodName := ⟨RX5, "place", "(II)V"⟩
abbrev cX5_copyFrom : ByteArray := prog_7_method_3_code
def yX5_copyFrom : MethodName := ⟨RX5, "copyFrom", "(LCoughLamps$Walker;)V"⟩
abbrev cX5_addGoal : ByteArray := prog_7_method_4_code
def yX5_addGoal : MethodName := ⟨RX5, "addGoal", "(II)I"⟩
abbrev cX5_go : ByteArray := prog_7_method_5_code
def yX5_go : MethodName := ⟨RX5, "go", "()V"⟩
abbrev cX5_arrive : ByteArray := prog_7_method_6_code
def yX5_arrive : MethodName := ⟨RX5, "arrive", "()V"⟩
abbrev cX5_finishGoal : ByteArray := prog_7_method_7_code
def yX5_finishGoal : MethodName := ⟨RX5, "finishGoal", "()V"⟩
def RX6 : String := "CoughLamps"
def TX6 : u_T := fun k => match k with
  | 0 => ("CoughLamps", "now", "LCoughLamps$Street;", true)
  | 1 => ("CoughLamps", "trial", "LCoughLamps$Street;", true)
  | 2 => ("CoughLamps", "slots", "[LCoughLamps$Street;", true)
  | 3 => ("CoughLamps", "saved", "[Z", true)
  | 4 => ("CoughLamps", "history", "LCoughLamps$History;", true)
  | _ => ("CoughLamps", "pad", "LCoughLamps$Pad;", true)
def tyX6 : Nat → FieldType := fun k => match k with
  | 0 => .object "CoughLamps$Street"
  | 1 => .object "CoughLamps$Street"
  | 2 => .array (.object "CoughLamps$Street")
  | 3 => .array .boolean
  | 4 => .object "CoughLamps$History"
  | _ => .object "CoughLamps$Pad"
abbrev wsX60 : List Cond := u_ws RX6 TX6 6
theorem nmX6 : ∀ a, a < 6 → ∀ b, b < 6 → a ≠ b → (TX6 a).2.1 ≠ (TX6 b).2.1 := by decide +kernel
theorem tyX6_ok : ∀ k, k < 6 → parseFieldDescriptor (TX6 k).2.2.1 = some (tyX6 k) := by decide +kernel
abbrev cX6_init : ByteArray := prog_1_method_1_code
def yX6_init : MethodName := ⟨RX6, "<init>", "()V"⟩
abbrev cX6_set : ByteArray := prog_1_method_2_code
def yX6_set : MethodName := ⟨RX6, "set", "(II)I"⟩
abbrev cX6_lamp : ByteArray := prog_1_method_3_code
def yX6_lamp : MethodName := ⟨RX6, "lamp", "(II)I"⟩
abbrev cX6_house : ByteArray := prog_1_method_4_code
def yX6_house : MethodName := ⟨RX6, "house", "(I)I"⟩
abbrev cX6_walker : ByteArray := prog_1_method_5_code
def yX6_walker : MethodName := ⟨RX6, "walker", "(II)I"⟩
abbrev cX6_goal : ByteArray := prog_1_method_6_code
def yX6_goal : MethodName := ⟨RX6, "goal", "(III)I"⟩
abbrev cX6_mend : ByteArray := prog_1_method_7_code
def yX6_mend : MethodName := ⟨RX6, "mend", "(II)I"⟩
abbrev cX6_cough : ByteArray := prog_1_method_8_code
def yX6_cough : MethodName := ⟨RX6, "cough", "(I)I"⟩
abbrev cX6_ticks : ByteArray := prog_1_method_9_code
def yX6_ticks : MethodName := ⟨RX6, "ticks", "(I)I"⟩
abbrev cX6_ofLamp : ByteArray := prog_1_method_10_code
def yX6_ofLamp : MethodName := ⟨RX6, "ofLamp", "(II)I"⟩
abbrev cX6_ofWalker : ByteArray := prog_1_method_11_code
def yX6_ofWalker : MethodName := ⟨RX6, "ofWalker", "(II)I"⟩
abbrev cX6_ofHouse : ByteArray := prog_1_method_12_code
def yX6_ofHouse : MethodName := ⟨RX6, "ofHouse", "(II)I"⟩
abbrev cX6_lightAt : ByteArray := prog_1_method_13_code
def yX6_lightAt : MethodName := ⟨RX6, "lightAt", "(I)I"⟩
abbrev cX6_hearers : ByteArray := prog_1_method_14_code
def yX6_hearers : MethodName := ⟨RX6, "hearers", "(I)I"⟩
abbrev cX6_count : ByteArray := prog_1_method_15_code
def yX6_count : MethodName := ⟨RX6, "count", "(I)I"⟩
abbrev cX6_homeIn : ByteArray := prog_1_method_16_code
def yX6_homeIn : MethodName := ⟨RX6, "homeIn", "(I)I"⟩
abbrev cX6_brings : ByteArray := prog_1_method_17_code
def yX6_brings : MethodName := ⟨RX6, "brings", "(II)I"⟩
abbrev cX6_bestReach : ByteArray := prog_1_method_18_code
def yX6_bestReach : MethodName := ⟨RX6, "bestReach", "(I)I"⟩
abbrev cX6_needless : ByteArray := prog_1_method_19_code
def yX6_needless : MethodName := ⟨RX6, "needless", "()I"⟩
abbrev cX6_broughtByTrial : ByteArray := prog_1_method_20_code
def yX6_broughtByTrial : MethodName := ⟨RX6, "broughtByTrial", "(I)I"⟩
abbrev cX6_put : ByteArray := prog_1_method_21_code
def yX6_put : MethodName := ⟨RX6, "put", "(J)I"⟩
abbrev cX6_wipe : ByteArray := prog_1_method_22_code
def yX6_wipe : MethodName := ⟨RX6, "wipe", "()I"⟩
abbrev cX6_fault : ByteArray := prog_1_method_23_code
def yX6_fault : MethodName := ⟨RX6, "fault", "()I"⟩
abbrev cX6_carryOut : ByteArray := prog_1_method_24_code
def yX6_carryOut : MethodName := ⟨RX6, "carryOut", "()I"⟩
abbrev cX6_carryOrder : ByteArray := prog_1_method_25_code
def yX6_carryOrder : MethodName := ⟨RX6, "carryOrder", "()I"⟩
abbrev cX6_carryWalkerIn : ByteArray := prog_1_method_26_code
def yX6_carryWalkerIn : MethodName := ⟨RX6, "carryWalkerIn", "()I"⟩
abbrev cX6_countSigns : ByteArray := prog_1_method_27_code
def yX6_countSigns : MethodName := ⟨RX6, "countSigns", "(J)I"⟩
abbrev cX6_undo : ByteArray := prog_1_method_28_code
def yX6_undo : MethodName := ⟨RX6, "undo", "()I"⟩
abbrev cX6_save : ByteArray := prog_1_method_29_code
def yX6_save : MethodName := ⟨RX6, "save", "(I)I"⟩
abbrev cX6_restore : ByteArray := prog_1_method_30_code
def yX6_restore : MethodName := ⟨RX6, "restore", "(I)I"⟩
abbrev cX6_within : ByteArray := prog_1_method_31_code
def yX6_within : MethodName := ⟨RX6, "within", "(III)Z"⟩
abbrev cX6_isStep : ByteArray := prog_1_method_32_code
def yX6_isStep : MethodName := ⟨RX6, "isStep", "(I)Z"⟩
abbrev cX6_isTicks : ByteArray := prog_1_method_33_code
def yX6_isTicks : MethodName := ⟨RX6, "isTicks", "(I)Z"⟩
def RX7 : String := "CoughLampsModel"
def TX7 : u_T := fun k => match k with
  | 0 => ("CoughLampsModel", "at", "[I", true)
  | 1 => ("CoughLampsModel", "past", "[I", true)
  | 2 => ("CoughLampsModel", "pastFirst", "I", false)
  | 3 => ("CoughLampsModel", "pastMany", "I", false)
  | 4 => ("CoughLampsModel", "slots", "[I", true)
  | 5 => ("CoughLampsModel", "isSaved", "[Z", true)
  | 6 => ("CoughLampsModel", "aside", "[I", true)
  | 7 => ("CoughLampsModel", "ranks", "[I", true)
  | 8 => ("CoughLampsModel", "were", "[I", true)
  | 9 => ("CoughLampsModel", "pad", "[I", true)
  | 10 => ("CoughLampsModel", "padMany", "I", false)
  | 11 => ("CoughLampsModel", "spot", "I", false)
  | 12 => ("CoughLampsModel", "isWrong", "Z", false)
  | 13 => ("CoughLampsModel", "orders", "I", false)
  | 14 => ("CoughLampsModel", "read", "I", false)
  | 15 => ("CoughLampsModel", "sort", "[I", true)
  | 16 => ("CoughLampsModel", "begins", "[I", true)
  | _ => ("CoughLampsModel", "numbers", "[I", true)
def tyX7 : Nat → FieldType := fun k => match k with
  | 0 => .array .int
  | 1 => .array .int
  | 2 => .int
  | 3 => .int
  | 4 => .array .int
  | 5 => .array .boolean
  | 6 => .array .int
  | 7 => .array .int
  | 8 => .array .int
  | 9 => .array .int
  | 10 => .int
  | 11 => .int
  | 12 => .boolean
  | 13 => .int
  | 14 => .int
  | 15 => .array .int
  | 16 => .array .int
  | _ => .array .int
abbrev wsX70 : List Cond := u_ws RX7 TX7 18
theorem nmX7 : ∀ a, a < 18 → ∀ b, b < 18 → a ≠ b → (TX7 a).2.1 ≠ (TX7 b).2.1 := by decide +kernel
theorem tyX7_ok : ∀ k, k < 18 → parseFieldDescriptor (TX7 k).2.2.1 = some (tyX7 k) := by decide +kernel
abbrev cX7_init : ByteArray := prog_9_method_1_code
def yX7_init : MethodName := ⟨RX7, "<init>", "()V"⟩
abbrev cX7_in : ByteArray := prog_9_method_3_code
def yX7_in : MethodName := ⟨RX7, "in", "(III)Z"⟩
abbrev cX7_far : ByteArray := prog_9_method_4_code
def yX7_far : MethodName := ⟨RX7, "far", "(II)I"⟩
abbrev cX7_isStep : ByteArray := prog_9_method_5_code
def yX7_isStep : MethodName := ⟨RX7, "isStep", "(I)Z"⟩
abbrev cX7_ofL : ByteArray := prog_9_method_6_code
def yX7_ofL : MethodName := ⟨RX7, "ofL", "(II)I"⟩
abbrev cX7_layL : ByteArray := prog_9_method_7_code
def yX7_layL : MethodName := ⟨RX7, "layL", "(III)V"⟩
abbrev cX7_moreL : ByteArray := prog_9_method_8_code
def yX7_moreL : MethodName := ⟨RX7, "moreL", "(III)V"⟩
abbrev cX7_ofW : ByteArray := prog_9_method_9_code
def yX7_ofW : MethodName := ⟨RX7, "ofW", "(II)I"⟩
abbrev cX7_layW : ByteArray := prog_9_method_10_code
def yX7_layW : MethodName := ⟨RX7, "layW", "(III)V"⟩
abbrev cX7_ofH : ByteArray := prog_9_method_11_code
def yX7_ofH : MethodName := ⟨RX7, "ofH", "(II)I"⟩
abbrev cX7_isLamp : ByteArray := prog_9_method_12_code
def yX7_isLamp : MethodName := ⟨RX7, "isLamp", "(I)Z"⟩
abbrev cX7_isWalker : ByteArray := prog_9_method_13_code
def yX7_isWalker : MethodName := ⟨RX7, "isWalker", "(I)Z"⟩
abbrev cX7_isInStreet : ByteArray := prog_9_method_14_code
def yX7_isInStreet : MethodName := ⟨RX7, "isInStreet", "(I)Z"⟩
abbrev cX7_keep : ByteArray := prog_9_method_15_code
def yX7_keep : MethodName := ⟨RX7, "keep", "()V"⟩
abbrev cX7_keepIf : ByteArray := prog_9_method_16_code
def yX7_keepIf : MethodName := ⟨RX7, "keepIf", "(Z)V"⟩
abbrev cX7_layAside : ByteArray := prog_9_method_17_code
def yX7_layAside : MethodName := ⟨RX7, "layAside", "()V"⟩
abbrev cX7_layBack : ByteArray := prog_9_method_18_code
def yX7_layBack : MethodName := ⟨RX7, "layBack", "()V"⟩
abbrev cX7_lights : ByteArray := prog_9_method_19_code
def yX7_lights : MethodName := ⟨RX7, "lights", "(II)Z"⟩
abbrev cX7_lightOn : ByteArray := prog_9_method_20_code
def yX7_lightOn : MethodName := ⟨RX7, "lightOn", "(I)I"⟩
abbrev cX7_isDisturbed : ByteArray := prog_9_method_21_code
def yX7_isDisturbed : MethodName := ⟨RX7, "isDisturbed", "(I)Z"⟩
abbrev cX7_nearestTo : ByteArray := prog_9_method_22_code
def yX7_nearestTo : MethodName := ⟨RX7, "nearestTo", "(I)I"⟩
abbrev cX7_shine : ByteArray := prog_9_method_23_code
def yX7_shine : MethodName := ⟨RX7, "shine", "(I)V"⟩
abbrev cX7_hears : ByteArray := prog_9_method_24_code
def yX7_hears : MethodName := ⟨RX7, "hears", "(II)Z"⟩
abbrev cX7_stopWaiting : ByteArray := prog_9_method_25_code
def yX7_stopWaiting : MethodName := ⟨RX7, "stopWaiting", "(I)V"⟩
abbrev cX7_coughs : ByteArray := prog_9_method_26_code
def yX7_coughs : MethodName := ⟨RX7, "coughs", "(II)I"⟩
abbrev cX7_endGoal : ByteArray := prog_9_method_27_code
def yX7_endGoal : MethodName := ⟨RX7, "endGoal", "(I)V"⟩
abbrev cX7_walk : ByteArray := prog_9_method_28_code
def yX7_walk : MethodName := ⟨RX7, "walk", "(I)V"⟩
abbrev cX7_go : ByteArray := prog_9_method_29_code
def yX7_go : MethodName := ⟨RX7, "go", "(I)V"⟩
abbrev cX7_coughAgain : ByteArray := prog_9_method_30_code
def yX7_coughAgain : MethodName := ⟨RX7, "coughAgain", "()V"⟩
abbrev cX7_sees : ByteArray := prog_9_method_31_code
def yX7_sees : MethodName := ⟨RX7, "sees", "(I)Z"⟩
abbrev cX7_look : ByteArray := prog_9_method_32_code
def yX7_look : MethodName := ⟨RX7, "look", "()V"⟩
abbrev cX7_fade : ByteArray := prog_9_method_33_code
def yX7_fade : MethodName := ⟨RX7, "fade", "(I)V"⟩
abbrev cX7_account : ByteArray := prog_9_method_34_code
def yX7_account : MethodName := ⟨RX7, "account", "()V"⟩
abbrev cX7_pass : ByteArray := prog_9_method_35_code
def yX7_pass : MethodName := ⟨RX7, "pass", "()V"⟩
abbrev cX7_highest : ByteArray := prog_9_method_36_code
def yX7_highest : MethodName := ⟨RX7, "highest", "(I)I"⟩
abbrev cX7_set : ByteArray := prog_9_method_37_code
def yX7_set : MethodName := ⟨RX7, "set", "(II)I"⟩
abbrev cX7_lampAt : ByteArray := prog_9_method_38_code
def yX7_lampAt : MethodName := ⟨RX7, "lampAt", "(I)I"⟩
abbrev cX7_lamp : ByteArray := prog_9_method_39_code
def yX7_lamp : MethodName := ⟨RX7, "lamp", "(II)I"⟩
abbrev cX7_house : ByteArray := prog_9_method_40_code
def yX7_house : MethodName := ⟨RX7, "house", "(I)I"⟩
abbrev cX7_tryWalker : ByteArray := prog_9_method_41_code
def yX7_tryWalker : MethodName := ⟨RX7, "tryWalker", "(IIZ)I"⟩
abbrev cX7_walker : ByteArray := prog_9_method_42_code
def yX7_walker : MethodName := ⟨RX7, "walker", "(II)I"⟩
abbrev cX7_tryGoal : ByteArray := prog_9_method_43_code
def yX7_tryGoal : MethodName := ⟨RX7, "tryGoal", "(IIIZ)I"⟩
abbrev cX7_goal : ByteArray := prog_9_method_44_code
def yX7_goal : MethodName := ⟨RX7, "goal", "(III)I"⟩
abbrev cX7_mendTo : ByteArray := prog_9_method_45_code
def yX7_mendTo : MethodName := ⟨RX7, "mendTo", "(II)V"⟩
abbrev cX7_tryMend : ByteArray := prog_9_method_46_code
def yX7_tryMend : MethodName := ⟨RX7, "tryMend", "(IIZ)I"⟩
abbrev cX7_mend : ByteArray := prog_9_method_47_code
def yX7_mend : MethodName := ⟨RX7, "mend", "(II)I"⟩
abbrev cX7_tryCough : ByteArray := prog_9_method_48_code
def yX7_tryCough : MethodName := ⟨RX7, "tryCough", "(IZ)I"⟩
abbrev cX7_cough : ByteArray := prog_9_method_49_code
def yX7_cough : MethodName := ⟨RX7, "cough", "(I)I"⟩
abbrev cX7_tryTicks : ByteArray := prog_9_method_50_code
def yX7_tryTicks : MethodName := ⟨RX7, "tryTicks", "(IZ)I"⟩
abbrev cX7_ticks : ByteArray := prog_9_method_51_code
def yX7_ticks : MethodName := ⟨RX7, "ticks", "(I)I"⟩
abbrev cX7_ofLamp : ByteArray := prog_9_method_52_code
def yX7_ofLamp : MethodName := ⟨RX7, "ofLamp", "(II)I"⟩
abbrev cX7_ofWalker : ByteArray := prog_9_method_53_code
def yX7_ofWalker : MethodName := ⟨RX7, "ofWalker", "(II)I"⟩
abbrev cX7_ofHouse : ByteArray := prog_9_method_54_code
def yX7_ofHouse : MethodName := ⟨RX7, "ofHouse", "(II)I"⟩
abbrev cX7_lightAt : ByteArray := prog_9_method_55_code
def yX7_lightAt : MethodName := ⟨RX7, "lightAt", "(I)I"⟩
abbrev cX7_hearers : ByteArray := prog_9_method_56_code
def yX7_hearers : MethodName := ⟨RX7, "hearers", "(I)I"⟩
abbrev cX7_lampsThat : ByteArray := prog_9_method_57_code
def yX7_lampsThat : MethodName := ⟨RX7, "lampsThat", "(I)I"⟩
abbrev cX7_sumL : ByteArray := prog_9_method_58_code
def yX7_sumL : MethodName := ⟨RX7, "sumL", "(I)I"⟩
abbrev cX7_darkTicks : ByteArray := prog_9_method_59_code
def yX7_darkTicks : MethodName := ⟨RX7, "darkTicks", "()I"⟩
abbrev cX7_disturbedTicks : ByteArray := prog_9_method_60_code
def yX7_disturbedTicks : MethodName := ⟨RX7, "disturbedTicks", "()I"⟩
abbrev cX7_walkersInStreet : ByteArray := prog_9_method_61_code
def yX7_walkersInStreet : MethodName := ⟨RX7, "walkersInStreet", "()I"⟩
abbrev cX7_count : ByteArray := prog_9_method_62_code
def yX7_count : MethodName := ⟨RX7, "count", "(I)I"⟩
abbrev cX7_homeIn : ByteArray := prog_9_method_63_code
def yX7_homeIn : MethodName := ⟨RX7, "homeIn", "(I)I"⟩
abbrev cX7_counted : ByteArray := prog_9_method_64_code
def yX7_counted : MethodName := ⟨RX7, "counted", "(I)I"⟩
abbrev cX7_brought : ByteArray := prog_9_method_65_code
def yX7_brought : MethodName := ⟨RX7, "brought", "(II)I"⟩
abbrev cX7_brings : ByteArray := prog_9_method_66_code
def yX7_brings : MethodName := ⟨RX7, "brings", "(II)I"⟩
abbrev cX7_bestReach : ByteArray := prog_9_method_67_code
def yX7_bestReach : MethodName := ⟨RX7, "bestReach", "(I)I"⟩
abbrev cX7_darkWithout : ByteArray := prog_9_method_68_code
def yX7_darkWithout : MethodName := ⟨RX7, "darkWithout", "(I)I"⟩
abbrev cX7_needless : ByteArray := prog_9_method_69_code
def yX7_needless : MethodName := ⟨RX7, "needless", "()I"⟩
abbrev cX7_put : ByteArray := prog_9_method_70_code
def yX7_put : MethodName := ⟨RX7, "put", "(J)I"⟩
abbrev cX7_wipe : ByteArray := prog_9_method_71_code
def yX7_wipe : MethodName := ⟨RX7, "wipe", "()I"⟩
abbrev cX7_next : ByteArray := prog_9_method_72_code
def yX7_next : MethodName := ⟨RX7, "next", "()I"⟩
abbrev cX7_takeSign : ByteArray := prog_9_method_73_code
def yX7_takeSign : MethodName := ⟨RX7, "takeSign", "(I)V"⟩
abbrev cX7_enter : ByteArray := prog_9_method_74_code
def yX7_enter : MethodName := ⟨RX7, "enter", "(I)V"⟩
abbrev cX7_takeNumber : ByteArray := prog_9_method_75_code
def yX7_takeNumber : MethodName := ⟨RX7, "takeNumber", "()V"⟩
abbrev cX7_takeWalker : ByteArray := prog_9_method_76_code
def yX7_takeWalker : MethodName := ⟨RX7, "takeWalker", "()V"⟩
abbrev cX7_takeMend : ByteArray := prog_9_method_77_code
def yX7_takeMend : MethodName := ⟨RX7, "takeMend", "()V"⟩
abbrev cX7_takeOrder : ByteArray := prog_9_method_78_code
def yX7_takeOrder : MethodName := ⟨RX7, "takeOrder", "()V"⟩
abbrev cX7_fault : ByteArray := prog_9_method_79_code
def yX7_fault : MethodName := ⟨RX7, "fault", "()I"⟩
abbrev cX7_sendWalker : ByteArray := prog_9_method_80_code
def yX7_sendWalker : MethodName := ⟨RX7, "sendWalker", "(I)I"⟩
abbrev cX7_carry : ByteArray := prog_9_method_81_code
def yX7_carry : MethodName := ⟨RX7, "carry", "(I)I"⟩
abbrev cX7_carryOut : ByteArray := prog_9_method_82_code
def yX7_carryOut : MethodName := ⟨RX7, "carryOut", "()I"⟩
abbrev cX7_undo : ByteArray := prog_9_method_83_code
def yX7_undo : MethodName := ⟨RX7, "undo", "()I"⟩
abbrev cX7_save : ByteArray := prog_9_method_84_code
def yX7_save : MethodName := ⟨RX7, "save", "(I)I"⟩
abbrev cX7_restore : ByteArray := prog_9_method_85_code
def yX7_restore : MethodName := ⟨RX7, "restore", "(I)I"⟩
def RJ6 : String := "java/lang/Integer"
def TJ6 : u_T := fun k => match k with
  | _ => ("", "", "", false)
def tyJ6 : Nat → FieldType := fun k => match k with
  | _ => .int
abbrev wsJ60 : List Cond := u_ws RJ6 TJ6 0
theorem nmJ6 : ∀ a, a < 0 → ∀ b, b < 0 → a ≠ b → (TJ6 a).2.1 ≠ (TJ6 b).2.1 := by decide +kernel
theorem tyJ6_ok : ∀ k, k < 0 → parseFieldDescriptor (TJ6 k).2.2.1 = some (tyJ6 k) := by decide +kernel
abbrev cJ6_bitCount_0f7a4 : ByteArray := prog_10_method_49_code
def yJ6_bitCount_0f7a4 : MethodName := ⟨RJ6, "bitCount", "(I)I"⟩
def RJ9 : String := "java/lang/Math"
def TJ9 : u_T := fun k => match k with
  | _ => ("", "", "", false)
def tyJ9 : Nat → FieldType := fun k => match k with
  | _ => .int
abbrev wsJ90 : List Cond := u_ws RJ9 TJ9 0
theorem nmJ9 : ∀ a, a < 0 → ∀ b, b < 0 → a ≠ b → (TJ9 a).2.1 ≠ (TJ9 b).2.1 := by decide +kernel
theorem tyJ9_ok : ∀ k, k < 0 → parseFieldDescriptor (TJ9 k).2.2.1 = some (tyJ9 k) := by decide +kernel
abbrev cJ9_abs_0f7a4 : ByteArray := prog_11_method_59_code
def yJ9_abs_0f7a4 : MethodName := ⟨RJ9, "abs", "(I)I"⟩
abbrev cJ9_max_7cf53 : ByteArray := prog_11_method_65_code
def yJ9_max_7cf53 : MethodName := ⟨RJ9, "max", "(II)I"⟩
abbrev cJ9_min_7cf53 : ByteArray := prog_11_method_69_code
def yJ9_min_7cf53 : MethodName := ⟨RJ9, "min", "(II)I"⟩
def RJ10 : String := "java/lang/System"
def TJ10 : u_T := fun k => match k with
  | _ => ("", "", "", false)
def tyJ10 : Nat → FieldType := fun k => match k with
  | _ => .int
abbrev wsJ100 : List Cond := u_ws RJ10 TJ10 0
theorem nmJ10 : ∀ a, a < 0 → ∀ b, b < 0 → a ≠ b → (TJ10 a).2.1 ≠ (TJ10 b).2.1 := by decide +kernel
theorem tyJ10_ok : ∀ k, k < 0 → parseFieldDescriptor (TJ10 k).2.2.1 = some (tyJ10 k) := by decide +kernel
def RL : String := "CoughLampsLaw"
abbrev cL_law : ByteArray := code
def yL_law : MethodName := ⟨RL, "law", "([I)Z"⟩
def wsL_law_r1 : List Cond := [Cond.classLink RL 7 RX6, Cond.instantiable RX6 6, Cond.initialized RX6, Cond.classLink RL 10 RX7, Cond.instantiable RX7 18, Cond.initialized RX7, Cond.constantLong RL 89 (4294967295), Cond.methodLink RL 9 yX6_init, Cond.instanceMethod yX6_init, Cond.code yX6_init cX6_init 2 none, Cond.methodLink RX6 1 objectInit, Cond.instanceMethod objectInit, Cond.code objectInit ⟨#[0xb1]⟩ 1 none, Cond.classLink RX6 7 RX4, Cond.instantiable RX4 8, Cond.initialized RX4, Cond.fieldLink RX6 10 "CoughLamps" "now" "LCoughLamps$Street;", Cond.fieldLink RX6 16 "CoughLamps" "trial" "LCoughLamps$Street;", Cond.fieldLink RX6 19 "CoughLamps" "slots" "[LCoughLamps$Street;", Cond.arrayClass .boolean, Cond.fieldLink RX6 23 "CoughLamps" "saved" "[Z", Cond.classLink RX6 27 RX0, Cond.instantiable RX0 3, Cond.initialized RX0]
def wsL_law_r2 : List Cond := [Cond.fieldLink RX6 30 "CoughLamps" "history" "LCoughLamps$History;", Cond.classLink RX6 34 RX3, Cond.instantiable RX3 6, Cond.initialized RX3, Cond.fieldLink RX6 37 "CoughLamps" "pad" "LCoughLamps$Pad;", Cond.methodLink RX6 9 yX4_init, Cond.instanceMethod yX4_init, Cond.code yX4_init cX4_init 2 none, Cond.methodLink RX4 3 objectInit, Cond.arrayClass .int, Cond.fieldLink RX4 9 "CoughLamps$Street" "settings" "[I", Cond.classLink RX4 15 RX2, Cond.fieldLink RX4 17 "CoughLamps$Street" "lamps" "[LCoughLamps$Lamp;", Cond.classLink RX4 21 RX1, Cond.fieldLink RX4 23 "CoughLamps$Street" "houses" "[LCoughLamps$House;", Cond.classLink RX4 27 RX5, Cond.fieldLink RX4 29 "CoughLamps$Street" "walkers" "[LCoughLamps$Walker;", Cond.methodLink RX4 36 arraycopyName, Cond.native arraycopyName, Cond.static arraycopyName, Cond.initialized "java/lang/System", Cond.instantiable RX2 13, Cond.initialized RX2, Cond.instantiable RX1 2]
def wsL_law_r3 : List Cond := [Cond.initialized RX1, Cond.instantiable RX5 9, Cond.initialized RX5, Cond.instanceMethod yX2_init, Cond.code yX2_init cX2_init 1 none, Cond.methodLink RX2 3 objectInit, Cond.instanceMethod yX1_init, Cond.code yX1_init cX1_init 1 none, Cond.methodLink RX1 1 objectInit, Cond.instanceMethod yX5_init, Cond.code yX5_init cX5_init 1 none, Cond.methodLink RX5 3 objectInit, Cond.fieldLink RX5 9 "CoughLamps$Walker" "goalSteps" "[I", Cond.fieldLink RX5 15 "CoughLamps$Walker" "goalPauses" "[I", Cond.methodLink RX6 29 yX0_init, Cond.instanceMethod yX0_init, Cond.code yX0_init cX0_init 2 none, Cond.methodLink RX0 3 objectInit, Cond.classLink RX0 11 RX4, Cond.fieldLink RX0 13 "CoughLamps$History" "states" "[LCoughLamps$Street;", Cond.methodLink RX0 17 yX4_init, Cond.instanceMethod yX3_init, Cond.code yX3_init cX3_init 1 none, Cond.methodLink RX3 3 objectInit]
def wsL_law_r4 : List Cond := [Cond.arrayClass .char, Cond.fieldLink RX3 9 "CoughLamps$Pad" "signs" "[C", Cond.fieldLink RX3 15 "CoughLamps$Pad" "numbers" "[I", Cond.methodLink RL 12 yX7_init, Cond.instanceMethod yX7_init, Cond.code yX7_init cX7_init 1 none, Cond.methodLink RX7 1 objectInit, Cond.fieldLink RX7 7 "CoughLampsModel" "at" "[I", Cond.fieldLink RX7 13 "CoughLampsModel" "past" "[I", Cond.fieldLink RX7 16 "CoughLampsModel" "slots" "[I", Cond.fieldLink RX7 19 "CoughLampsModel" "isSaved" "[Z", Cond.fieldLink RX7 23 "CoughLampsModel" "aside" "[I", Cond.fieldLink RX7 26 "CoughLampsModel" "ranks" "[I", Cond.fieldLink RX7 29 "CoughLampsModel" "were" "[I", Cond.fieldLink RX7 32 "CoughLampsModel" "pad" "[I", Cond.fieldLink RX7 35 "CoughLampsModel" "sort" "[I", Cond.fieldLink RX7 38 "CoughLampsModel" "begins" "[I", Cond.fieldLink RX7 41 "CoughLampsModel" "numbers" "[I", Cond.methodLink RL 13 yX6_set, Cond.instanceMethod yX6_set, Cond.selects RX6 yX6_set yX6_set, Cond.code yX6_set cX6_set 3 (some .int), Cond.methodLink RX6 41 yX0_draft, Cond.instanceMethod yX0_draft]
def wsL_law_r5 : List Cond := [Cond.selects RX0 yX0_draft yX0_draft, Cond.code yX0_draft cX0_draft 2 none, Cond.fieldLink RX0 18 "CoughLamps$History" "draftPlace" "I", Cond.methodLink RX0 22 yX4_become, Cond.instanceMethod yX4_become, Cond.selects RX4 yX4_become yX4_become, Cond.code yX4_become cX4_become 3 none, Cond.fieldLink RX4 45 "CoughLamps$Street" "lampCount" "I", Cond.fieldLink RX4 53 "CoughLamps$Street" "houseCount" "I", Cond.fieldLink RX4 59 "CoughLamps$Street" "walkerCount" "I", Cond.fieldLink RX4 65 "CoughLamps$Street" "tick" "I", Cond.methodLink RX4 49 yX2_copyFrom, Cond.instanceMethod yX2_copyFrom, Cond.selects RX2 yX2_copyFrom yX2_copyFrom, Cond.code yX2_copyFrom cX2_copyFrom 2 none, Cond.fieldLink RX2 9 "CoughLamps$Lamp" "step" "I", Cond.fieldLink RX2 15 "CoughLamps$Lamp" "shine" "I", Cond.fieldLink RX2 18 "CoughLamps$Lamp" "does" "I", Cond.fieldLink RX2 21 "CoughLamps$Lamp" "how" "I", Cond.fieldLink RX2 24 "CoughLamps$Lamp" "left" "I", Cond.fieldLink RX2 27 "CoughLamps$Lamp" "wait" "I", Cond.fieldLink RX2 30 "CoughLamps$Lamp" "rank" "I", Cond.fieldLink RX2 33 "CoughLamps$Lamp" "light" "I", Cond.fieldLink RX2 36 "CoughLamps$Lamp" "coughs" "I"]
def wsL_law_r6 : List Cond := [Cond.fieldLink RX2 39 "CoughLamps$Lamp" "heard" "I", Cond.fieldLink RX2 42 "CoughLamps$Lamp" "blamed" "I", Cond.methodLink RX4 56 yX1_copyFrom, Cond.instanceMethod yX1_copyFrom, Cond.selects RX1 yX1_copyFrom yX1_copyFrom, Cond.code yX1_copyFrom cX1_copyFrom 2 none, Cond.fieldLink RX1 7 "CoughLamps$House" "step" "I", Cond.fieldLink RX1 13 "CoughLamps$House" "disturbed" "I", Cond.methodLink RX4 62 yX5_copyFrom, Cond.instanceMethod yX5_copyFrom, Cond.selects RX5 yX5_copyFrom yX5_copyFrom, Cond.code yX5_copyFrom cX5_copyFrom 2 none, Cond.methodLink RX5 41 arraycopyName, Cond.fieldLink RX5 18 "CoughLamps$Walker" "goals" "I", Cond.fieldLink RX5 22 "CoughLamps$Walker" "step" "I", Cond.fieldLink RX5 25 "CoughLamps$Walker" "pace" "I", Cond.fieldLink RX5 28 "CoughLamps$Walker" "home" "Z", Cond.fieldLink RX5 32 "CoughLamps$Walker" "rested" "I", Cond.fieldLink RX5 35 "CoughLamps$Walker" "dark" "I", Cond.fieldLink RX5 38 "CoughLamps$Walker" "walked" "I", Cond.methodLink RX6 45 yX4_changeSetting, Cond.instanceMethod yX4_changeSetting, Cond.selects RX4 yX4_changeSetting yX4_changeSetting, Cond.code yX4_changeSetting cX4_changeSetting 4 (some .int)]
def wsL_law_r7 : List Cond := [Cond.static yX6_within, Cond.code yX6_within cX6_within 3 (some .boolean), Cond.methodLink RX6 49 yX0_keepUnlessError, Cond.instanceMethod yX0_keepUnlessError, Cond.selects RX0 yX0_keepUnlessError yX0_keepUnlessError, Cond.code yX0_keepUnlessError cX0_keepUnlessError 2 (some .int), Cond.fieldLink RX0 26 "CoughLamps$History" "size" "I", Cond.methodLink RX0 29 Lib.Math.min.name, Cond.static Lib.Math.min.name, Cond.initialized "java/lang/Math", Cond.code Lib.Math.min.name Lib.Math.min.code 2 (some .int), Cond.methodLink RL 17 yX7_set, Cond.instanceMethod yX7_set, Cond.selects RX7 yX7_set yX7_set, Cond.code yX7_set cX7_set 4 (some .int), Cond.methodLink RX7 44 yX7_in, Cond.static yX7_in, Cond.code yX7_in cX7_in 3 (some .boolean), Cond.methodLink RX7 136 yX7_highest, Cond.static yX7_highest, Cond.code yX7_highest cX7_highest 1 (some .int), Cond.methodLink RX7 59 yX7_keep, Cond.instanceMethod yX7_keep, Cond.selects RX7 yX7_keep yX7_keep]
def wsL_law_r8 : List Cond := [Cond.code yX7_keep cX7_keep 3 none, Cond.fieldLink RX7 52 "CoughLampsModel" "pastMany" "I", Cond.fieldLink RX7 56 "CoughLampsModel" "pastFirst" "I", Cond.methodLink RL 18 yX6_lamp, Cond.instanceMethod yX6_lamp, Cond.selects RX6 yX6_lamp yX6_lamp, Cond.code yX6_lamp cX6_lamp 3 (some .int), Cond.methodLink RX6 53 yX4_addLamp, Cond.instanceMethod yX4_addLamp, Cond.selects RX4 yX4_addLamp yX4_addLamp, Cond.code yX4_addLamp cX4_addLamp 4 (some .int), Cond.fieldLink RX4 82 "CoughLamps$Lamp" "step" "I", Cond.static yX6_isStep, Cond.code yX6_isStep cX6_isStep 1 (some .boolean), Cond.methodLink RX6 119 yX6_within, Cond.methodLink RX4 85 yX2_place, Cond.instanceMethod yX2_place, Cond.selects RX2 yX2_place yX2_place, Cond.code yX2_place cX2_place 3 none, Cond.methodLink RL 21 yX7_lamp, Cond.instanceMethod yX7_lamp, Cond.selects RX7 yX7_lamp yX7_lamp, Cond.code yX7_lamp cX7_lamp 3 (some .int), Cond.methodLink RX7 139 yX7_isStep]
def wsL_law_r9 : List Cond := [Cond.static yX7_isStep, Cond.code yX7_isStep cX7_isStep 1 (some .boolean), Cond.methodLink RX7 142 yX7_lampAt, Cond.instanceMethod yX7_lampAt, Cond.selects RX7 yX7_lampAt yX7_lampAt, Cond.code yX7_lampAt cX7_lampAt 3 (some .int), Cond.methodLink RX7 62 yX7_ofL, Cond.instanceMethod yX7_ofL, Cond.selects RX7 yX7_ofL yX7_ofL, Cond.code yX7_ofL cX7_ofL 3 (some .int), Cond.methodLink RX7 75 yX7_layL, Cond.instanceMethod yX7_layL, Cond.selects RX7 yX7_layL yX7_layL, Cond.code yX7_layL cX7_layL 4 none, Cond.methodLink RL 22 yX6_house, Cond.instanceMethod yX6_house, Cond.selects RX6 yX6_house yX6_house, Cond.code yX6_house cX6_house 2 (some .int), Cond.methodLink RX6 56 yX4_addHouse, Cond.instanceMethod yX4_addHouse, Cond.selects RX4 yX4_addHouse yX4_addHouse, Cond.code yX4_addHouse cX4_addHouse 2 (some .int), Cond.methodLink RX4 89 yX1_place, Cond.instanceMethod yX1_place]
def wsL_law_r10 : List Cond := [Cond.selects RX1 yX1_place yX1_place, Cond.code yX1_place cX1_place 2 none, Cond.methodLink RL 26 yX7_house, Cond.instanceMethod yX7_house, Cond.selects RX7 yX7_house yX7_house, Cond.code yX7_house cX7_house 2 (some .int), Cond.methodLink RL 27 yX6_walker, Cond.instanceMethod yX6_walker, Cond.selects RX6 yX6_walker yX6_walker, Cond.code yX6_walker cX6_walker 3 (some .int), Cond.methodLink RX6 59 yX4_addWalker, Cond.instanceMethod yX4_addWalker, Cond.selects RX4 yX4_addWalker yX4_addWalker, Cond.code yX4_addWalker cX4_addWalker 3 (some .int), Cond.methodLink RX4 92 yX5_place, Cond.instanceMethod yX5_place, Cond.selects RX5 yX5_place yX5_place, Cond.code yX5_place cX5_place 3 none, Cond.methodLink RL 30 yX7_walker, Cond.instanceMethod yX7_walker, Cond.selects RX7 yX7_walker yX7_walker, Cond.code yX7_walker cX7_walker 3 (some .int), Cond.methodLink RX7 149 yX7_tryWalker, Cond.instanceMethod yX7_tryWalker]
def wsL_law_r11 : List Cond := [Cond.selects RX7 yX7_tryWalker yX7_tryWalker, Cond.code yX7_tryWalker cX7_tryWalker 4 (some .int), Cond.methodLink RX7 145 yX7_keepIf, Cond.instanceMethod yX7_keepIf, Cond.selects RX7 yX7_keepIf yX7_keepIf, Cond.code yX7_keepIf cX7_keepIf 2 none, Cond.methodLink RX7 89 yX7_layW, Cond.instanceMethod yX7_layW, Cond.selects RX7 yX7_layW yX7_layW, Cond.code yX7_layW cX7_layW 4 none, Cond.methodLink RL 31 yX6_goal, Cond.instanceMethod yX6_goal, Cond.selects RX6 yX6_goal yX6_goal, Cond.code yX6_goal cX6_goal 4 (some .int), Cond.methodLink RX6 62 yX4_giveGoal, Cond.instanceMethod yX4_giveGoal, Cond.selects RX4 yX4_giveGoal yX4_giveGoal, Cond.code yX4_giveGoal cX4_giveGoal 4 (some .int), Cond.methodLink RX4 93 yX4_hasWalker, Cond.instanceMethod yX4_hasWalker, Cond.selects RX4 yX4_hasWalker yX4_hasWalker, Cond.code yX4_hasWalker cX4_hasWalker 2 (some .boolean), Cond.methodLink RX4 96 yX5_addGoal, Cond.instanceMethod yX5_addGoal]
def wsL_law_r12 : List Cond := [Cond.selects RX5 yX5_addGoal yX5_addGoal, Cond.code yX5_addGoal cX5_addGoal 3 (some .int), Cond.methodLink RL 35 yX7_goal, Cond.instanceMethod yX7_goal, Cond.selects RX7 yX7_goal yX7_goal, Cond.code yX7_goal cX7_goal 4 (some .int), Cond.methodLink RX7 156 yX7_tryGoal, Cond.instanceMethod yX7_tryGoal, Cond.selects RX7 yX7_tryGoal yX7_tryGoal, Cond.code yX7_tryGoal cX7_tryGoal 5 (some .int), Cond.methodLink RX7 153 yX7_isWalker, Cond.instanceMethod yX7_isWalker, Cond.selects RX7 yX7_isWalker yX7_isWalker, Cond.code yX7_isWalker cX7_isWalker 2 (some .boolean), Cond.methodLink RX7 48 yX7_ofW, Cond.instanceMethod yX7_ofW, Cond.selects RX7 yX7_ofW yX7_ofW, Cond.code yX7_ofW cX7_ofW 3 (some .int), Cond.methodLink RX7 95 yX7_isInStreet, Cond.instanceMethod yX7_isInStreet, Cond.selects RX7 yX7_isInStreet yX7_isInStreet, Cond.code yX7_isInStreet cX7_isInStreet 2 (some .boolean), Cond.methodLink RL 36 yX6_mend, Cond.instanceMethod yX6_mend]
def wsL_law_r13 : List Cond := [Cond.selects RX6 yX6_mend yX6_mend, Cond.code yX6_mend cX6_mend 3 (some .int), Cond.methodLink RX6 66 yX4_mendLamp, Cond.instanceMethod yX4_mendLamp, Cond.selects RX4 yX4_mendLamp yX4_mendLamp, Cond.code yX4_mendLamp cX4_mendLamp 4 (some .int), Cond.fieldLink RX4 103 "CoughLamps$Lamp" "how" "I", Cond.methodLink RX4 100 yX4_hasLamp, Cond.instanceMethod yX4_hasLamp, Cond.selects RX4 yX4_hasLamp yX4_hasLamp, Cond.code yX4_hasLamp cX4_hasLamp 2 (some .boolean), Cond.methodLink RX4 106 yX2_becomes, Cond.instanceMethod yX2_becomes, Cond.selects RX2 yX2_becomes yX2_becomes, Cond.code yX2_becomes cX2_becomes 2 none, Cond.methodLink RL 39 yX7_mend, Cond.instanceMethod yX7_mend, Cond.selects RX7 yX7_mend yX7_mend, Cond.code yX7_mend cX7_mend 3 (some .int), Cond.methodLink RX7 167 yX7_tryMend, Cond.instanceMethod yX7_tryMend, Cond.selects RX7 yX7_tryMend yX7_tryMend, Cond.code yX7_tryMend cX7_tryMend 5 (some .int), Cond.methodLink RX7 160 yX7_isLamp]
def wsL_law_r14 : List Cond := [Cond.instanceMethod yX7_isLamp, Cond.selects RX7 yX7_isLamp yX7_isLamp, Cond.code yX7_isLamp cX7_isLamp 2 (some .boolean), Cond.methodLink RX7 163 yX7_mendTo, Cond.instanceMethod yX7_mendTo, Cond.selects RX7 yX7_mendTo yX7_mendTo, Cond.code yX7_mendTo cX7_mendTo 3 none, Cond.methodLink RX7 102 yX7_stopWaiting, Cond.instanceMethod yX7_stopWaiting, Cond.selects RX7 yX7_stopWaiting yX7_stopWaiting, Cond.code yX7_stopWaiting cX7_stopWaiting 2 none, Cond.methodLink RL 40 yX6_cough, Cond.instanceMethod yX6_cough, Cond.selects RX6 yX6_cough yX6_cough, Cond.code yX6_cough cX6_cough 2 (some .int), Cond.methodLink RX6 69 yX4_coughByOrder, Cond.instanceMethod yX4_coughByOrder, Cond.selects RX4 yX4_coughByOrder yX4_coughByOrder, Cond.code yX4_coughByOrder cX4_coughByOrder 2 (some .int), Cond.methodLink RX4 109 yX4_forgetLastTick, Cond.instanceMethod yX4_forgetLastTick, Cond.selects RX4 yX4_forgetLastTick yX4_forgetLastTick, Cond.code yX4_forgetLastTick cX4_forgetLastTick 2 none, Cond.methodLink RX4 133 yX2_forgetTick]
def wsL_law_r15 : List Cond := [Cond.instanceMethod yX2_forgetTick, Cond.selects RX2 yX2_forgetTick yX2_forgetTick, Cond.code yX2_forgetTick cX2_forgetTick 1 none, Cond.fieldLink RX2 45 "CoughLamps$Lamp" "anew" "Z", Cond.fieldLink RX2 49 "CoughLamps$Lamp" "coughed" "Z", Cond.methodLink RX4 112 yX4_spreadCough, Cond.instanceMethod yX4_spreadCough, Cond.selects RX4 yX4_spreadCough yX4_spreadCough, Cond.code yX4_spreadCough cX4_spreadCough 5 (some .int), Cond.fieldLink RX4 192 "CoughLamps$Lamp" "coughs" "I", Cond.methodLink RX4 195 yX4_hears, Cond.instanceMethod yX4_hears, Cond.selects RX4 yX4_hears yX4_hears, Cond.code yX4_hears cX4_hears 3 (some .boolean), Cond.methodLink RX4 164 yX2_distanceTo, Cond.instanceMethod yX2_distanceTo, Cond.selects RX2 yX2_distanceTo yX2_distanceTo, Cond.code yX2_distanceTo cX2_distanceTo 2 (some .int), Cond.methodLink RX2 52 Lib.Math.abs.name, Cond.static Lib.Math.abs.name, Cond.code Lib.Math.abs.name Lib.Math.abs.code 1 (some .int), Cond.methodLink RX4 199 yX2_hear, Cond.instanceMethod yX2_hear, Cond.selects RX2 yX2_hear yX2_hear]
def wsL_law_r16 : List Cond := [Cond.code yX2_hear cX2_hear 3 none, Cond.methodLink RX2 61 yX2_wake, Cond.instanceMethod yX2_wake, Cond.selects RX2 yX2_wake yX2_wake, Cond.code yX2_wake cX2_wake 2 none, Cond.methodLink RL 43 yX7_cough, Cond.instanceMethod yX7_cough, Cond.selects RX7 yX7_cough yX7_cough, Cond.code yX7_cough cX7_cough 2 (some .int), Cond.methodLink RX7 170 yX7_tryCough, Cond.instanceMethod yX7_tryCough, Cond.selects RX7 yX7_tryCough yX7_tryCough, Cond.code yX7_tryCough cX7_tryCough 4 (some .int), Cond.methodLink RX7 105 yX7_coughs, Cond.instanceMethod yX7_coughs, Cond.selects RX7 yX7_coughs yX7_coughs, Cond.code yX7_coughs cX7_coughs 5 (some .int), Cond.methodLink RX7 79 yX7_moreL, Cond.instanceMethod yX7_moreL, Cond.selects RX7 yX7_moreL yX7_moreL, Cond.code yX7_moreL cX7_moreL 4 none, Cond.methodLink RX7 82 yX7_hears, Cond.instanceMethod yX7_hears, Cond.selects RX7 yX7_hears yX7_hears]
def wsL_law_r17 : List Cond := [Cond.code yX7_hears cX7_hears 3 (some .boolean), Cond.methodLink RX7 65 yX7_far, Cond.static yX7_far, Cond.code yX7_far cX7_far 2 (some .int), Cond.methodLink RX7 85 yX7_shine, Cond.instanceMethod yX7_shine, Cond.selects RX7 yX7_shine yX7_shine, Cond.code yX7_shine cX7_shine 2 none, Cond.methodLink RL 44 yX6_ticks, Cond.instanceMethod yX6_ticks, Cond.selects RX6 yX6_ticks yX6_ticks, Cond.code yX6_ticks cX6_ticks 2 (some .int), Cond.methodLink RX6 72 yX4_letPass, Cond.instanceMethod yX4_letPass, Cond.selects RX4 yX4_letPass yX4_letPass, Cond.code yX4_letPass cX4_letPass 3 (some .int), Cond.static yX6_isTicks, Cond.code yX6_isTicks cX6_isTicks 1 (some .boolean), Cond.methodLink RX4 118 yX4_moveWalkers, Cond.instanceMethod yX4_moveWalkers, Cond.selects RX4 yX4_moveWalkers yX4_moveWalkers, Cond.code yX4_moveWalkers cX4_moveWalkers 2 none, Cond.methodLink RX4 136 yX5_go, Cond.instanceMethod yX5_go]
def wsL_law_r18 : List Cond := [Cond.selects RX5 yX5_go yX5_go, Cond.code yX5_go cX5_go 3 none, Cond.methodLink RX5 50 Lib.Math.min.name, Cond.methodLink RX5 56 Lib.Math.max.name, Cond.static Lib.Math.max.name, Cond.code Lib.Math.max.name Lib.Math.max.code 2 (some .int), Cond.methodLink RX5 59 Lib.Math.abs.name, Cond.methodLink RX5 47 yX5_finishGoal, Cond.instanceMethod yX5_finishGoal, Cond.selects RX5 yX5_finishGoal yX5_finishGoal, Cond.code yX5_finishGoal cX5_finishGoal 1 none, Cond.methodLink RX5 63 yX5_arrive, Cond.instanceMethod yX5_arrive, Cond.selects RX5 yX5_arrive yX5_arrive, Cond.code yX5_arrive cX5_arrive 1 none, Cond.methodLink RX4 121 yX4_coughThoseWhoWaited, Cond.instanceMethod yX4_coughThoseWhoWaited, Cond.selects RX4 yX4_coughThoseWhoWaited yX4_coughThoseWhoWaited, Cond.code yX4_coughThoseWhoWaited cX4_coughThoseWhoWaited 4 none, Cond.fieldLink RX4 139 "CoughLamps$Lamp" "wait" "I", Cond.fieldLink RX4 145 "CoughLamps$Lamp" "rank" "I", Cond.methodLink RX4 142 yX2_takeTurn, Cond.instanceMethod yX2_takeTurn, Cond.selects RX2 yX2_takeTurn yX2_takeTurn]
def wsL_law_r19 : List Cond := [Cond.code yX2_takeTurn cX2_takeTurn 1 none, Cond.methodLink RX4 124 yX4_wakeThoseWhoSee, Cond.instanceMethod yX4_wakeThoseWhoSee, Cond.selects RX4 yX4_wakeThoseWhoSee yX4_wakeThoseWhoSee, Cond.code yX4_wakeThoseWhoSee cX4_wakeThoseWhoSee 3 none, Cond.methodLink RX4 148 yX4_lampsThatAre, Cond.instanceMethod yX4_lampsThatAre, Cond.selects RX4 yX4_lampsThatAre yX4_lampsThatAre, Cond.code yX4_lampsThatAre cX4_lampsThatAre 4 (some .int), Cond.fieldLink RX4 203 "CoughLamps$Lamp" "does" "I", Cond.methodLink RX4 152 yX4_seesWalker, Cond.instanceMethod yX4_seesWalker, Cond.selects RX4 yX4_seesWalker yX4_seesWalker, Cond.code yX4_seesWalker cX4_seesWalker 3 (some .boolean), Cond.fieldLink RX4 159 "CoughLamps$Walker" "home" "Z", Cond.fieldLink RX4 163 "CoughLamps$Walker" "step" "I", Cond.methodLink RX4 156 yX2_wake, Cond.methodLink RX4 127 yX4_fadeLamps, Cond.instanceMethod yX4_fadeLamps, Cond.selects RX4 yX4_fadeLamps yX4_fadeLamps, Cond.code yX4_fadeLamps cX4_fadeLamps 2 none, Cond.methodLink RX4 167 yX2_fade, Cond.instanceMethod yX2_fade, Cond.selects RX2 yX2_fade yX2_fade]
def wsL_law_r20 : List Cond := [Cond.code yX2_fade cX2_fade 2 none, Cond.methodLink RX4 130 yX4_tally, Cond.instanceMethod yX4_tally, Cond.selects RX4 yX4_tally yX4_tally, Cond.code yX4_tally cX4_tally 3 none, Cond.fieldLink RX4 176 "CoughLamps$Walker" "dark" "I", Cond.fieldLink RX4 186 "CoughLamps$House" "disturbed" "I", Cond.methodLink RX4 170 yX2_useLight, Cond.instanceMethod yX2_useLight, Cond.selects RX2 yX2_useLight yX2_useLight, Cond.code yX2_useLight cX2_useLight 1 none, Cond.methodLink RX4 173 yX4_lampsThatLight, Cond.instanceMethod yX4_lampsThatLight, Cond.selects RX4 yX4_lampsThatLight yX4_lampsThatLight, Cond.code yX4_lampsThatLight cX4_lampsThatLight 4 (some .int), Cond.methodLink RX4 206 yX2_lights, Cond.instanceMethod yX2_lights, Cond.selects RX2 yX2_lights yX2_lights, Cond.code yX2_lights cX2_lights 2 (some .boolean), Cond.methodLink RX2 58 yX2_distanceTo, Cond.methodLink RX4 179 yX4_blameNearest, Cond.instanceMethod yX4_blameNearest, Cond.selects RX4 yX4_blameNearest yX4_blameNearest, Cond.code yX4_blameNearest cX4_blameNearest 4 none]
def wsL_law_r21 : List Cond := [Cond.fieldLink RX4 189 "CoughLamps$Lamp" "blamed" "I", Cond.methodLink RX4 182 yX4_isDisturbed, Cond.instanceMethod yX4_isDisturbed, Cond.selects RX4 yX4_isDisturbed yX4_isDisturbed, Cond.code yX4_isDisturbed cX4_isDisturbed 3 (some .boolean), Cond.fieldLink RX4 209 "CoughLamps$House" "step" "I", Cond.methodLink RX4 210 yX2_disturbs, Cond.instanceMethod yX2_disturbs, Cond.selects RX2 yX2_disturbs yX2_disturbs, Cond.code yX2_disturbs cX2_disturbs 2 (some .boolean), Cond.methodLink RL 47 yX7_ticks, Cond.instanceMethod yX7_ticks, Cond.selects RX7 yX7_ticks yX7_ticks, Cond.code yX7_ticks cX7_ticks 2 (some .int), Cond.methodLink RX7 177 yX7_tryTicks, Cond.instanceMethod yX7_tryTicks, Cond.selects RX7 yX7_tryTicks yX7_tryTicks, Cond.code yX7_tryTicks cX7_tryTicks 4 (some .int), Cond.methodLink RX7 174 yX7_pass, Cond.instanceMethod yX7_pass, Cond.selects RX7 yX7_pass yX7_pass, Cond.code yX7_pass cX7_pass 2 none, Cond.methodLink RX7 121 yX7_go, Cond.instanceMethod yX7_go]
def wsL_law_r22 : List Cond := [Cond.selects RX7 yX7_go yX7_go, Cond.code yX7_go cX7_go 2 none, Cond.methodLink RX7 99 yX7_walk, Cond.instanceMethod yX7_walk, Cond.selects RX7 yX7_walk yX7_walk, Cond.code yX7_walk cX7_walk 5 none, Cond.methodLink RX7 92 yX7_endGoal, Cond.instanceMethod yX7_endGoal, Cond.selects RX7 yX7_endGoal yX7_endGoal, Cond.code yX7_endGoal cX7_endGoal 3 none, Cond.methodLink RX7 124 yX7_coughAgain, Cond.instanceMethod yX7_coughAgain, Cond.selects RX7 yX7_coughAgain yX7_coughAgain, Cond.code yX7_coughAgain cX7_coughAgain 2 none, Cond.methodLink RX7 127 yX7_look, Cond.instanceMethod yX7_look, Cond.selects RX7 yX7_look yX7_look, Cond.code yX7_look cX7_look 2 none, Cond.methodLink RX7 108 yX7_sees, Cond.instanceMethod yX7_sees, Cond.selects RX7 yX7_sees yX7_sees, Cond.code yX7_sees cX7_sees 4 (some .boolean), Cond.methodLink RX7 130 yX7_fade, Cond.instanceMethod yX7_fade]
def wsL_law_r23 : List Cond := [Cond.selects RX7 yX7_fade yX7_fade, Cond.code yX7_fade cX7_fade 4 none, Cond.methodLink RX7 133 yX7_account, Cond.instanceMethod yX7_account, Cond.selects RX7 yX7_account yX7_account, Cond.code yX7_account cX7_account 3 none, Cond.methodLink RX7 111 yX7_lightOn, Cond.instanceMethod yX7_lightOn, Cond.selects RX7 yX7_lightOn yX7_lightOn, Cond.code yX7_lightOn cX7_lightOn 4 (some .int), Cond.methodLink RX7 68 yX7_lights, Cond.instanceMethod yX7_lights, Cond.selects RX7 yX7_lights yX7_lights, Cond.code yX7_lights cX7_lights 5 (some .boolean), Cond.methodLink RX7 115 yX7_nearestTo, Cond.instanceMethod yX7_nearestTo, Cond.selects RX7 yX7_nearestTo yX7_nearestTo, Cond.code yX7_nearestTo cX7_nearestTo 4 (some .int), Cond.methodLink RX7 118 yX7_isDisturbed, Cond.instanceMethod yX7_isDisturbed, Cond.selects RX7 yX7_isDisturbed yX7_isDisturbed, Cond.code yX7_isDisturbed cX7_isDisturbed 4 (some .boolean), Cond.methodLink RX7 72 yX7_ofH, Cond.instanceMethod yX7_ofH]
def wsL_law_r24 : List Cond := [Cond.selects RX7 yX7_ofH yX7_ofH, Cond.code yX7_ofH cX7_ofH 3 (some .int), Cond.methodLink RL 48 yX6_ofLamp, Cond.instanceMethod yX6_ofLamp, Cond.selects RX6 yX6_ofLamp yX6_ofLamp, Cond.code yX6_ofLamp cX6_ofLamp 3 (some .int), Cond.fieldLink RX6 79 "CoughLamps$Street" "lamps" "[LCoughLamps$Lamp;", Cond.methodLink RX6 75 yX4_hasLamp, Cond.methodLink RX6 83 yX2_tell, Cond.instanceMethod yX2_tell, Cond.selects RX2 yX2_tell yX2_tell, Cond.code yX2_tell cX2_tell 2 (some .int), Cond.methodLink RL 51 yX7_ofLamp, Cond.instanceMethod yX7_ofLamp, Cond.selects RX7 yX7_ofLamp yX7_ofLamp, Cond.code yX7_ofLamp cX7_ofLamp 3 (some .int), Cond.methodLink RL 52 yX6_ofWalker, Cond.instanceMethod yX6_ofWalker, Cond.selects RX6 yX6_ofWalker yX6_ofWalker, Cond.code yX6_ofWalker cX6_ofWalker 3 (some .int), Cond.fieldLink RX6 91 "CoughLamps$Street" "walkers" "[LCoughLamps$Walker;", Cond.methodLink RX6 88 yX4_hasWalker, Cond.methodLink RX6 95 yX4_tellOfWalker, Cond.instanceMethod yX4_tellOfWalker]
def wsL_law_r25 : List Cond := [Cond.selects RX4 yX4_tellOfWalker yX4_tellOfWalker, Cond.code yX4_tellOfWalker cX4_tellOfWalker 3 (some .int), Cond.fieldLink RX4 213 "CoughLamps$Walker" "pace" "I", Cond.fieldLink RX4 216 "CoughLamps$Walker" "goals" "I", Cond.fieldLink RX4 219 "CoughLamps$Walker" "goalSteps" "[I", Cond.fieldLink RX4 222 "CoughLamps$Walker" "rested" "I", Cond.fieldLink RX4 225 "CoughLamps$Walker" "walked" "I", Cond.methodLink RL 55 yX7_ofWalker, Cond.instanceMethod yX7_ofWalker, Cond.selects RX7 yX7_ofWalker yX7_ofWalker, Cond.code yX7_ofWalker cX7_ofWalker 3 (some .int), Cond.methodLink RL 56 yX6_ofHouse, Cond.instanceMethod yX6_ofHouse, Cond.selects RX6 yX6_ofHouse yX6_ofHouse, Cond.code yX6_ofHouse cX6_ofHouse 3 (some .int), Cond.fieldLink RX6 102 "CoughLamps$Street" "houses" "[LCoughLamps$House;", Cond.methodLink RX6 99 yX4_hasHouse, Cond.instanceMethod yX4_hasHouse, Cond.selects RX4 yX4_hasHouse yX4_hasHouse, Cond.code yX4_hasHouse cX4_hasHouse 2 (some .boolean), Cond.methodLink RX6 106 yX4_tellOfHouse, Cond.instanceMethod yX4_tellOfHouse, Cond.selects RX4 yX4_tellOfHouse yX4_tellOfHouse, Cond.code yX4_tellOfHouse cX4_tellOfHouse 3 (some .int)]
def wsL_law_r26 : List Cond := [Cond.methodLink RL 59 yX7_ofHouse, Cond.instanceMethod yX7_ofHouse, Cond.selects RX7 yX7_ofHouse yX7_ofHouse, Cond.code yX7_ofHouse cX7_ofHouse 3 (some .int), Cond.methodLink RL 60 yX6_lightAt, Cond.instanceMethod yX6_lightAt, Cond.selects RX6 yX6_lightAt yX6_lightAt, Cond.code yX6_lightAt cX6_lightAt 2 (some .int), Cond.methodLink RX6 110 yX6_isStep, Cond.methodLink RX6 113 yX4_lampsThatLight, Cond.methodLink RL 63 yX7_lightAt, Cond.instanceMethod yX7_lightAt, Cond.selects RX7 yX7_lightAt yX7_lightAt, Cond.code yX7_lightAt cX7_lightAt 2 (some .int), Cond.methodLink RL 64 yX6_hearers, Cond.instanceMethod yX6_hearers, Cond.selects RX6 yX6_hearers yX6_hearers, Cond.code yX6_hearers cX6_hearers 2 (some .int), Cond.methodLink RX6 116 yX4_lampsThatHear, Cond.instanceMethod yX4_lampsThatHear, Cond.selects RX4 yX4_lampsThatHear yX4_lampsThatHear, Cond.code yX4_lampsThatHear cX4_lampsThatHear 4 (some .int), Cond.methodLink RL 67 yX7_hearers, Cond.instanceMethod yX7_hearers]
def wsL_law_r27 : List Cond := [Cond.selects RX7 yX7_hearers yX7_hearers, Cond.code yX7_hearers cX7_hearers 4 (some .int), Cond.methodLink RL 68 yX6_count, Cond.instanceMethod yX6_count, Cond.selects RX6 yX6_count yX6_count, Cond.code yX6_count cX6_count 2 (some .int), Cond.fieldLink RX6 123 "CoughLamps$Street" "settings" "[I", Cond.fieldLink RX6 127 "CoughLamps$Street" "tick" "I", Cond.fieldLink RX6 131 "CoughLamps$Street" "lampCount" "I", Cond.fieldLink RX6 134 "CoughLamps$Street" "houseCount" "I", Cond.fieldLink RX6 137 "CoughLamps$Street" "walkerCount" "I", Cond.fieldLink RX6 155 "CoughLamps$Pad" "length" "I", Cond.fieldLink RX6 158 "CoughLamps$History" "size" "I", Cond.methodLink RX6 140 yX4_walkersInStreet, Cond.instanceMethod yX4_walkersInStreet, Cond.selects RX4 yX4_walkersInStreet yX4_walkersInStreet, Cond.code yX4_walkersInStreet cX4_walkersInStreet 3 (some .int), Cond.methodLink RX6 144 yX4_lampsThatAre, Cond.methodLink RX6 147 yJ6_bitCount_0f7a4, Cond.static yJ6_bitCount_0f7a4, Cond.initialized RJ6, Cond.code yJ6_bitCount_0f7a4 cJ6_bitCount_0f7a4 1 (some .int), Cond.constant RJ6 265 (1431655765), Cond.constant RJ6 266 (858993459)]
def wsL_law_r28 : List Cond := [Cond.constant RJ6 267 (252645135), Cond.methodLink RX6 152 yX4_total, Cond.instanceMethod yX4_total, Cond.selects RX4 yX4_total yX4_total, Cond.code yX4_total cX4_total 2 (some .int), Cond.methodLink RX4 228 yX4_darkTicks, Cond.instanceMethod yX4_darkTicks, Cond.selects RX4 yX4_darkTicks yX4_darkTicks, Cond.code yX4_darkTicks cX4_darkTicks 3 (some .int), Cond.methodLink RX4 232 yX4_lightUnits, Cond.instanceMethod yX4_lightUnits, Cond.selects RX4 yX4_lightUnits yX4_lightUnits, Cond.code yX4_lightUnits cX4_lightUnits 3 (some .int), Cond.fieldLink RX4 241 "CoughLamps$Lamp" "light" "I", Cond.methodLink RX4 235 yX4_disturbedTicks, Cond.instanceMethod yX4_disturbedTicks, Cond.selects RX4 yX4_disturbedTicks yX4_disturbedTicks, Cond.code yX4_disturbedTicks cX4_disturbedTicks 3 (some .int), Cond.methodLink RX4 238 yX4_coughsSoFar, Cond.instanceMethod yX4_coughsSoFar, Cond.selects RX4 yX4_coughsSoFar yX4_coughsSoFar, Cond.code yX4_coughsSoFar cX4_coughsSoFar 3 (some .int), Cond.methodLink RL 71 yX7_count, Cond.instanceMethod yX7_count]
def wsL_law_r29 : List Cond := [Cond.selects RX7 yX7_count yX7_count, Cond.code yX7_count cX7_count 2 (some .int), Cond.fieldLink RX7 196 "CoughLampsModel" "padMany" "I", Cond.methodLink RX7 180 yX7_walkersInStreet, Cond.instanceMethod yX7_walkersInStreet, Cond.selects RX7 yX7_walkersInStreet yX7_walkersInStreet, Cond.code yX7_walkersInStreet cX7_walkersInStreet 3 (some .int), Cond.methodLink RX7 184 yX7_lampsThat, Cond.instanceMethod yX7_lampsThat, Cond.selects RX7 yX7_lampsThat yX7_lampsThat, Cond.code yX7_lampsThat cX7_lampsThat 4 (some .int), Cond.methodLink RX7 187 yX7_sumL, Cond.instanceMethod yX7_sumL, Cond.selects RX7 yX7_sumL yX7_sumL, Cond.code yX7_sumL cX7_sumL 4 (some .int), Cond.methodLink RX7 190 yX7_darkTicks, Cond.instanceMethod yX7_darkTicks, Cond.selects RX7 yX7_darkTicks yX7_darkTicks, Cond.code yX7_darkTicks cX7_darkTicks 3 (some .int), Cond.methodLink RX7 193 yX7_disturbedTicks, Cond.instanceMethod yX7_disturbedTicks, Cond.selects RX7 yX7_disturbedTicks yX7_disturbedTicks, Cond.code yX7_disturbedTicks cX7_disturbedTicks 3 (some .int), Cond.methodLink RL 72 yX6_homeIn]
def wsL_law_r30 : List Cond := [Cond.instanceMethod yX6_homeIn, Cond.selects RX6 yX6_homeIn yX6_homeIn, Cond.code yX6_homeIn cX6_homeIn 4 (some .int), Cond.fieldLink RX6 167 "CoughLamps$Walker" "home" "Z", Cond.methodLink RX6 161 yX5_copyFrom, Cond.methodLink RX6 171 yX5_go, Cond.methodLink RL 75 yX7_homeIn, Cond.instanceMethod yX7_homeIn, Cond.selects RX7 yX7_homeIn yX7_homeIn, Cond.code yX7_homeIn cX7_homeIn 3 (some .int), Cond.methodLink RX7 199 yX7_layAside, Cond.instanceMethod yX7_layAside, Cond.selects RX7 yX7_layAside yX7_layAside, Cond.code yX7_layAside cX7_layAside 2 none, Cond.methodLink RX7 202 yX7_layBack, Cond.instanceMethod yX7_layBack, Cond.selects RX7 yX7_layBack yX7_layBack, Cond.code yX7_layBack cX7_layBack 2 none, Cond.methodLink RL 76 yX6_brings, Cond.instanceMethod yX6_brings, Cond.selects RX6 yX6_brings yX6_brings, Cond.code yX6_brings cX6_brings 3 (some .int), Cond.methodLink RX6 174 yX6_isTicks, Cond.methodLink RX6 177 yX4_become]
def wsL_law_r31 : List Cond := [Cond.methodLink RX6 180 yX6_broughtByTrial, Cond.instanceMethod yX6_broughtByTrial, Cond.selects RX6 yX6_broughtByTrial yX6_broughtByTrial, Cond.code yX6_broughtByTrial cX6_broughtByTrial 2 (some .int), Cond.methodLink RL 79 yX7_brings, Cond.instanceMethod yX7_brings, Cond.selects RX7 yX7_brings yX7_brings, Cond.code yX7_brings cX7_brings 3 (some .int), Cond.methodLink RX7 208 yX7_brought, Cond.instanceMethod yX7_brought, Cond.selects RX7 yX7_brought yX7_brought, Cond.code yX7_brought cX7_brought 5 (some .int), Cond.methodLink RX7 205 yX7_counted, Cond.instanceMethod yX7_counted, Cond.selects RX7 yX7_counted yX7_counted, Cond.code yX7_counted cX7_counted 2 (some .int), Cond.methodLink RL 80 yX6_bestReach, Cond.instanceMethod yX6_bestReach, Cond.selects RX6 yX6_bestReach yX6_bestReach, Cond.code yX6_bestReach cX6_bestReach 9 (some .int), Cond.fieldLink RX6 183 "CoughLamps" "LEAST_VALUES" "[I", Cond.fieldLink RX6 186 "CoughLamps" "MOST_VALUES" "[I", Cond.methodLink RX6 189 yX4_hasLampsApart, Cond.instanceMethod yX4_hasLampsApart]
def wsL_law_r32 : List Cond := [Cond.selects RX4 yX4_hasLampsApart yX4_hasLampsApart, Cond.code yX4_hasLampsApart cX4_hasLampsApart 4 (some .boolean), Cond.methodLink RL 83 yX7_bestReach, Cond.instanceMethod yX7_bestReach, Cond.selects RX7 yX7_bestReach yX7_bestReach, Cond.code yX7_bestReach cX7_bestReach 9 (some .int), Cond.methodLink RL 84 yX6_needless, Cond.instanceMethod yX6_needless, Cond.selects RX6 yX6_needless yX6_needless, Cond.code yX6_needless cX6_needless 4 (some .int), Cond.methodLink RL 88 yX7_needless, Cond.instanceMethod yX7_needless, Cond.selects RX7 yX7_needless yX7_needless, Cond.code yX7_needless cX7_needless 4 (some .int), Cond.methodLink RX7 211 yX7_darkWithout, Cond.instanceMethod yX7_darkWithout, Cond.selects RX7 yX7_darkWithout yX7_darkWithout, Cond.code yX7_darkWithout cX7_darkWithout 4 (some .int), Cond.methodLink RL 91 yX6_put, Cond.instanceMethod yX6_put, Cond.selects RX6 yX6_put yX6_put, Cond.code yX6_put cX6_put 5 (some .int), Cond.constantLong RX6 196 (255), Cond.methodLink RX6 192 yX6_countSigns]
def wsL_law_r33 : List Cond := [Cond.static yX6_countSigns, Cond.code yX6_countSigns cX6_countSigns 6 (some .int), Cond.methodLink RX6 198 yX3_append, Cond.instanceMethod yX3_append, Cond.selects RX3 yX3_append yX3_append, Cond.code yX3_append cX3_append 2 none, Cond.fieldLink RX3 19 "CoughLamps$Pad" "length" "I", Cond.methodLink RL 95 yX7_put, Cond.instanceMethod yX7_put, Cond.selects RX7 yX7_put yX7_put, Cond.code yX7_put cX7_put 7 (some .int), Cond.constantLong RX7 214 (255), Cond.methodLink RL 96 yX6_wipe, Cond.instanceMethod yX6_wipe, Cond.selects RX6 yX6_wipe yX6_wipe, Cond.code yX6_wipe cX6_wipe 2 (some .int), Cond.methodLink RX6 202 yX3_clear, Cond.instanceMethod yX3_clear, Cond.selects RX3 yX3_clear yX3_clear, Cond.code yX3_clear cX3_clear 1 none, Cond.methodLink RL 99 yX7_wipe, Cond.instanceMethod yX7_wipe, Cond.selects RX7 yX7_wipe yX7_wipe, Cond.code yX7_wipe cX7_wipe 2 (some .int)]
def wsL_law_r34 : List Cond := [Cond.methodLink RL 100 yX6_fault, Cond.instanceMethod yX6_fault, Cond.selects RX6 yX6_fault yX6_fault, Cond.code yX6_fault cX6_fault 1 (some .int), Cond.methodLink RX6 205 yX3_firstFault, Cond.instanceMethod yX3_firstFault, Cond.selects RX3 yX3_firstFault yX3_firstFault, Cond.code yX3_firstFault cX3_firstFault 2 (some .int), Cond.fieldLink RX3 23 "CoughLamps$Pad" "at" "I", Cond.methodLink RX3 26 yX3_rewind, Cond.instanceMethod yX3_rewind, Cond.selects RX3 yX3_rewind yX3_rewind, Cond.code yX3_rewind cX3_rewind 1 none, Cond.methodLink RX3 29 yX3_readOrder, Cond.instanceMethod yX3_readOrder, Cond.selects RX3 yX3_readOrder yX3_readOrder, Cond.code yX3_readOrder cX3_readOrder 1 (some .boolean), Cond.fieldLink RX3 37 "CoughLamps$Pad" "numberCount" "I", Cond.fieldLink RX3 44 "CoughLamps$Pad" "kind" "I", Cond.methodLink RX3 40 yX3_sign, Cond.instanceMethod yX3_sign, Cond.selects RX3 yX3_sign yX3_sign, Cond.code yX3_sign cX3_sign 1 (some .char), Cond.methodLink RX3 33 yX3_readSign]
def wsL_law_r35 : List Cond := [Cond.instanceMethod yX3_readSign, Cond.selects RX3 yX3_readSign yX3_readSign, Cond.code yX3_readSign cX3_readSign 2 (some .boolean), Cond.methodLink RX3 47 yX3_readNumber, Cond.instanceMethod yX3_readNumber, Cond.selects RX3 yX3_readNumber yX3_readNumber, Cond.code yX3_readNumber cX3_readNumber 4 (some .boolean), Cond.methodLink RX3 60 yX3_isDigit, Cond.static yX3_isDigit, Cond.code yX3_isDigit cX3_isDigit 1 (some .boolean), Cond.methodLink RX3 56 yX3_keepNumber, Cond.instanceMethod yX3_keepNumber, Cond.selects RX3 yX3_keepNumber yX3_keepNumber, Cond.code yX3_keepNumber cX3_keepNumber 2 none, Cond.methodLink RX3 50 yX3_readGoals, Cond.instanceMethod yX3_readGoals, Cond.selects RX3 yX3_readGoals yX3_readGoals, Cond.code yX3_readGoals cX3_readGoals 2 (some .boolean), Cond.methodLink RX3 53 yX3_readMode, Cond.instanceMethod yX3_readMode, Cond.selects RX3 yX3_readMode yX3_readMode, Cond.code yX3_readMode cX3_readMode 2 (some .boolean), Cond.methodLink RL 103 yX7_fault, Cond.instanceMethod yX7_fault]
def wsL_law_r36 : List Cond := [Cond.selects RX7 yX7_fault yX7_fault, Cond.code yX7_fault cX7_fault 1 (some .int), Cond.fieldLink RX7 216 "CoughLampsModel" "spot" "I", Cond.fieldLink RX7 219 "CoughLampsModel" "isWrong" "Z", Cond.fieldLink RX7 238 "CoughLampsModel" "orders" "I", Cond.fieldLink RX7 226 "CoughLampsModel" "read" "I", Cond.methodLink RX7 247 yX7_takeOrder, Cond.instanceMethod yX7_takeOrder, Cond.selects RX7 yX7_takeOrder yX7_takeOrder, Cond.code yX7_takeOrder cX7_takeOrder 2 none, Cond.methodLink RX7 223 yX7_next, Cond.instanceMethod yX7_next, Cond.selects RX7 yX7_next yX7_next, Cond.code yX7_next cX7_next 1 (some .int), Cond.methodLink RX7 241 yX7_takeWalker, Cond.instanceMethod yX7_takeWalker, Cond.selects RX7 yX7_takeWalker yX7_takeWalker, Cond.code yX7_takeWalker cX7_takeWalker 1 none, Cond.methodLink RX7 232 yX7_takeNumber, Cond.instanceMethod yX7_takeNumber, Cond.selects RX7 yX7_takeNumber yX7_takeNumber, Cond.code yX7_takeNumber cX7_takeNumber 2 none, Cond.methodLink RX7 229 yX7_enter, Cond.instanceMethod yX7_enter]
def wsL_law_r37 : List Cond := [Cond.selects RX7 yX7_enter yX7_enter, Cond.code yX7_enter cX7_enter 2 none, Cond.methodLink RX7 235 yX7_takeSign, Cond.instanceMethod yX7_takeSign, Cond.selects RX7 yX7_takeSign yX7_takeSign, Cond.code yX7_takeSign cX7_takeSign 2 none, Cond.methodLink RX7 244 yX7_takeMend, Cond.instanceMethod yX7_takeMend, Cond.selects RX7 yX7_takeMend yX7_takeMend, Cond.code yX7_takeMend cX7_takeMend 1 none, Cond.methodLink RL 104 yX6_carryOut, Cond.instanceMethod yX6_carryOut, Cond.selects RX6 yX6_carryOut yX6_carryOut, Cond.code yX6_carryOut cX6_carryOut 2 (some .int), Cond.methodLink RX6 208 yX3_rewind, Cond.methodLink RX6 211 yX3_readNextOrder, Cond.instanceMethod yX3_readNextOrder, Cond.selects RX3 yX3_readNextOrder yX3_readNextOrder, Cond.code yX3_readNextOrder cX3_readNextOrder 1 (some .boolean), Cond.methodLink RX6 215 yX6_carryOrder, Cond.instanceMethod yX6_carryOrder, Cond.selects RX6 yX6_carryOrder yX6_carryOrder, Cond.code yX6_carryOrder cX6_carryOrder 1 (some .int), Cond.fieldLink RX6 218 "CoughLamps$Pad" "kind" "I"]
def wsL_law_r38 : List Cond := [Cond.fieldLink RX6 224 "CoughLamps$Pad" "numbers" "[I", Cond.methodLink RX6 221 yX6_carryWalkerIn, Cond.instanceMethod yX6_carryWalkerIn, Cond.selects RX6 yX6_carryWalkerIn yX6_carryWalkerIn, Cond.code yX6_carryWalkerIn cX6_carryWalkerIn 4 (some .int), Cond.fieldLink RX6 227 "CoughLamps$Pad" "numberCount" "I", Cond.methodLink RL 107 yX7_carryOut, Cond.instanceMethod yX7_carryOut, Cond.selects RX7 yX7_carryOut yX7_carryOut, Cond.code yX7_carryOut cX7_carryOut 2 (some .int), Cond.methodLink RX7 253 yX7_fault, Cond.methodLink RX7 256 yX7_carry, Cond.instanceMethod yX7_carry, Cond.selects RX7 yX7_carry yX7_carry, Cond.code yX7_carry cX7_carry 3 (some .int), Cond.methodLink RX7 250 yX7_sendWalker, Cond.instanceMethod yX7_sendWalker, Cond.selects RX7 yX7_sendWalker yX7_sendWalker, Cond.code yX7_sendWalker cX7_sendWalker 5 (some .int), Cond.methodLink RL 108 yX6_undo, Cond.instanceMethod yX6_undo, Cond.selects RX6 yX6_undo yX6_undo, Cond.code yX6_undo cX6_undo 1 (some .int), Cond.methodLink RX6 230 yX0_takeBack]
def wsL_law_r39 : List Cond := [Cond.instanceMethod yX0_takeBack, Cond.selects RX0 yX0_takeBack yX0_takeBack, Cond.code yX0_takeBack cX0_takeBack 2 (some .int), Cond.methodLink RL 111 yX7_undo, Cond.instanceMethod yX7_undo, Cond.selects RX7 yX7_undo yX7_undo, Cond.code yX7_undo cX7_undo 3 (some .int), Cond.methodLink RL 112 yX6_save, Cond.instanceMethod yX6_save, Cond.selects RX6 yX6_save yX6_save, Cond.code yX6_save cX6_save 2 (some .int), Cond.methodLink RL 115 yX7_save, Cond.instanceMethod yX7_save, Cond.selects RX7 yX7_save yX7_save, Cond.code yX7_save cX7_save 3 (some .int), Cond.methodLink RL 116 yX6_restore, Cond.instanceMethod yX6_restore, Cond.selects RX6 yX6_restore yX6_restore, Cond.code yX6_restore cX6_restore 2 (some .int), Cond.methodLink RL 119 yX7_restore, Cond.instanceMethod yX7_restore, Cond.selects RX7 yX7_restore yX7_restore, Cond.code yX7_restore cX7_restore 3 (some .int)]
def wsL_law : List Cond := (wsL_law_r1 ++ (wsL_law_r2 ++ (wsL_law_r3 ++ (wsL_law_r4 ++ (wsL_law_r5 ++ (wsL_law_r6 ++ (wsL_law_r7 ++ (wsL_law_r8 ++ (wsL_law_r9 ++ (wsL_law_r10 ++ (wsL_law_r11 ++ (wsL_law_r12 ++ (wsL_law_r13 ++ (wsL_law_r14 ++ (wsL_law_r15 ++ (wsL_law_r16 ++ (wsL_law_r17 ++ (wsL_law_r18 ++ (wsL_law_r19 ++ (wsL_law_r20 ++ (wsL_law_r21 ++ (wsL_law_r22 ++ (wsL_law_r23 ++ (wsL_law_r24 ++ (wsL_law_r25 ++ (wsL_law_r26 ++ (wsL_law_r27 ++ (wsL_law_r28 ++ (wsL_law_r29 ++ (wsL_law_r30 ++ (wsL_law_r31 ++ (wsL_law_r32 ++ (wsL_law_r33 ++ (wsL_law_r34 ++ (wsL_law_r35 ++ (wsL_law_r36 ++ (wsL_law_r37 ++ (wsL_law_r38 ++ wsL_law_r39)))))))))))))))))))))))))))))))))))))) ++ wsX60 ++ wsX70 ++ wsX40 ++ wsX00 ++ wsX30 ++ wsX20 ++ wsX10 ++ wsX50 ++ ([] : List Cond)
abbrev vwCl : List vw_C := [(RX0, TX0, 3), (RX1, TX1, 2), (RX2, TX2, 13), (RX3, TX3, 6), (RX4, TX4, 8), (RX5, TX5, 9), (RX6, TX6, 6), (RX7, TX7, 18)]
end
section
def xT : List Cond := wsL_law
theorem xT_good : xT.all goodWord = true := by decide +kernel
theorem xw_0 : Cond.classLink RL 7 RX6 ∈ xT := List.mem_of_getElem? (i := 0) (by decide +kernel)
theorem xw_1 : Cond.instantiable RX6 6 ∈ xT := List.mem_of_getElem? (i := 1) (by decide +kernel)
theorem xw_2 : Cond.initialized RX6 ∈ xT := List.mem_of_getElem? (i := 2) (by decide +kernel)
theorem xw_3 : Cond.classLink RL 10 RX7 ∈ xT := List.mem_of_getElem? (i := 3) (by decide +kernel)
theorem xw_4 : Cond.instantiable RX7 18 ∈ xT := List.mem_of_getElem? (i := 4) (by decide +kernel)
theorem xw_5 : Cond.initialized RX7 ∈ xT := List.mem_of_getElem? (i := 5) (by decide +kernel)
theorem xw_6 : Cond.constantLong RL 89 (4294967295) ∈ xT := List.mem_of_getElem? (i := 6) (by decide +kernel)
theorem xw_7 : Cond.methodLink RL 9 yX6_init ∈ xT := List.mem_of_getElem? (i := 7) (by decide +kernel)
theorem xw_8 : Cond.instanceMethod yX6_init ∈ xT := List.mem_of_getElem? (i := 8) (by decide +kernel)
theorem xw_9 : Cond.code yX6_init cX6_init 2 none ∈ xT := List.mem_of_getElem? (i := 9) (by decide +kernel)
theorem xw_10 : Cond.methodLink RX6 1 objectInit ∈ xT := List.mem_of_getElem? (i := 10) (by decide +kernel)
theorem xw_11 : Cond.instanceMethod objectInit ∈ xT := List.mem_of_getElem? (i := 11) (by decide +kernel)
theorem xw_12 : Cond.code objectInit ⟨#[0xb1]⟩ 1 none ∈ xT := List.mem_of_getElem? (i := 12) (by decide +kernel)
theorem xw_13 : Cond.classLink RX6 7 RX4 ∈ xT := List.mem_of_getElem? (i := 13) (by decide +kernel)
theorem xw_14 : Cond.instantiable RX4 8 ∈ xT := List.mem_of_getElem? (i := 14) (by decide +kernel)
theorem xw_15 : Cond.initialized RX4 ∈ xT := List.mem_of_getElem? (i := 15) (by decide +kernel)
theorem xw_16 : Cond.fieldLink RX6 10 "CoughLamps" "now" "LCoughLamps$Street;" ∈ xT := List.mem_of_getElem? (i := 16) (by decide +kernel)
theorem xw_17 : Cond.fieldLink RX6 16 "CoughLamps" "trial" "LCoughLamps$Street;" ∈ xT := List.mem_of_getElem? (i := 17) (by decide +kernel)
theorem xw_18 : Cond.fieldLink RX6 19 "CoughLamps" "slots" "[LCoughLamps$Street;" ∈ xT := List.mem_of_getElem? (i := 18) (by decide +kernel)
theorem xw_19 : Cond.arrayClass .boolean ∈ xT := List.mem_of_getElem? (i := 19) (by decide +kernel)
theorem xw_20 : Cond.fieldLink RX6 23 "CoughLamps" "saved" "[Z" ∈ xT := List.mem_of_getElem? (i := 20) (by decide +kernel)
theorem xw_21 : Cond.classLink RX6 27 RX0 ∈ xT := List.mem_of_getElem? (i := 21) (by decide +kernel)
theorem xw_22 : Cond.instantiable RX0 3 ∈ xT := List.mem_of_getElem? (i := 22) (by decide +kernel)
theorem xw_23 : Cond.initialized RX0 ∈ xT := List.mem_of_getElem? (i := 23) (by decide +kernel)
theorem xw_24 : Cond.fieldLink RX6 30 "CoughLamps" "history" "LCoughLamps$History;" ∈ xT := List.mem_of_getElem? (i := 24) (by decide +kernel)
theorem xw_25 : Cond.classLink RX6 34 RX3 ∈ xT := List.mem_of_getElem? (i := 25) (by decide +kernel)
theorem xw_26 : Cond.instantiable RX3 6 ∈ xT := List.mem_of_getElem? (i := 26) (by decide +kernel)
theorem xw_27 : Cond.initialized RX3 ∈ xT := List.mem_of_getElem? (i := 27) (by decide +kernel)
theorem xw_28 : Cond.fieldLink RX6 37 "CoughLamps" "pad" "LCoughLamps$Pad;" ∈ xT := List.mem_of_getElem? (i := 28) (by decide +kernel)
theorem xw_29 : Cond.methodLink RX6 9 yX4_init ∈ xT := List.mem_of_getElem? (i := 29) (by decide +kernel)
theorem xw_30 : Cond.instanceMethod yX4_init ∈ xT := List.mem_of_getElem? (i := 30) (by decide +kernel)
theorem xw_31 : Cond.code yX4_init cX4_init 2 none ∈ xT := List.mem_of_getElem? (i := 31) (by decide +kernel)
theorem xw_32 : Cond.methodLink RX4 3 objectInit ∈ xT := List.mem_of_getElem? (i := 32) (by decide +kernel)
theorem xw_33 : Cond.arrayClass .int ∈ xT := List.mem_of_getElem? (i := 33) (by decide +kernel)
theorem xw_34 : Cond.fieldLink RX4 9 "CoughLamps$Street" "settings" "[I" ∈ xT := List.mem_of_getElem? (i := 34) (by decide +kernel)
theorem xw_35 : Cond.classLink RX4 15 RX2 ∈ xT := List.mem_of_getElem? (i := 35) (by decide +kernel)
theorem xw_36 : Cond.fieldLink RX4 17 "CoughLamps$Street" "lamps" "[LCoughLamps$Lamp;" ∈ xT := List.mem_of_getElem? (i := 36) (by decide +kernel)
theorem xw_37 : Cond.classLink RX4 21 RX1 ∈ xT := List.mem_of_getElem? (i := 37) (by decide +kernel)
theorem xw_38 : Cond.fieldLink RX4 23 "CoughLamps$Street" "houses" "[LCoughLamps$House;" ∈ xT := List.mem_of_getElem? (i := 38) (by decide +kernel)
theorem xw_39 : Cond.classLink RX4 27 RX5 ∈ xT := List.mem_of_getElem? (i := 39) (by decide +kernel)
theorem xw_40 : Cond.fieldLink RX4 29 "CoughLamps$Street" "walkers" "[LCoughLamps$Walker;" ∈ xT := List.mem_of_getElem? (i := 40) (by decide +kernel)
theorem xw_41 : Cond.methodLink RX4 36 arraycopyName ∈ xT := List.mem_of_getElem? (i := 41) (by decide +kernel)
theorem xw_42 : Cond.native arraycopyName ∈ xT := List.mem_of_getElem? (i := 42) (by decide +kernel)
theorem xw_43 : Cond.static arraycopyName ∈ xT := List.mem_of_getElem? (i := 43) (by decide +kernel)
theorem xw_44 : Cond.initialized "java/lang/System" ∈ xT := List.mem_of_getElem? (i := 44) (by decide +kernel)
theorem xw_45 : Cond.instantiable RX2 13 ∈ xT := List.mem_of_getElem? (i := 45) (by decide +kernel)
theorem xw_46 : Cond.initialized RX2 ∈ xT := List.mem_of_getElem? (i := 46) (by decide +kernel)
theorem xw_47 : Cond.instantiable RX1 2 ∈ xT := List.mem_of_getElem? (i := 47) (by decide +kernel)
theorem xw_48 : Cond.initialized RX1 ∈ xT := List.mem_of_getElem? (i := 48) (by decide +kernel)
theorem xw_49 : Cond.instantiable RX5 9 ∈ xT := List.mem_of_getElem? (i := 49) (by decide +kernel)
theorem xw_50 : Cond.initialized RX5 ∈ xT := List.mem_of_getElem? (i := 50) (by decide +kernel)
theorem xw_51 : Cond.instanceMethod yX2_init ∈ xT := List.mem_of_getElem? (i := 51) (by decide +kernel)
theorem xw_52 : Cond.code yX2_init cX2_init 1 none ∈ xT := List.mem_of_getElem? (i := 52) (by decide +kernel)
theorem xw_53 : Cond.methodLink RX2 3 objectInit ∈ xT := List.mem_of_getElem? (i := 53) (by decide +kernel)
theorem xw_54 : Cond.instanceMethod yX1_init ∈ xT := List.mem_of_getElem? (i := 54) (by decide +kernel)
theorem xw_55 : Cond.code yX1_init cX1_init 1 none ∈ xT := List.mem_of_getElem? (i := 55) (by decide +kernel)
theorem xw_56 : Cond.methodLink RX1 1 objectInit ∈ xT := List.mem_of_getElem? (i := 56) (by decide +kernel)
theorem xw_57 : Cond.instanceMethod yX5_init ∈ xT := List.mem_of_getElem? (i := 57) (by decide +kernel)
theorem xw_58 : Cond.code yX5_init cX5_init 1 none ∈ xT := List.mem_of_getElem? (i := 58) (by decide +kernel)
theorem xw_59 : Cond.methodLink RX5 3 objectInit ∈ xT := List.mem_of_getElem? (i := 59) (by decide +kernel)
theorem xw_60 : Cond.fieldLink RX5 9 "CoughLamps$Walker" "goalSteps" "[I" ∈ xT := List.mem_of_getElem? (i := 60) (by decide +kernel)
theorem xw_61 : Cond.fieldLink RX5 15 "CoughLamps$Walker" "goalPauses" "[I" ∈ xT := List.mem_of_getElem? (i := 61) (by decide +kernel)
theorem xw_62 : Cond.methodLink RX6 29 yX0_init ∈ xT := List.mem_of_getElem? (i := 62) (by decide +kernel)
theorem xw_63 : Cond.instanceMethod yX0_init ∈ xT := List.mem_of_getElem? (i := 63) (by decide +kernel)
theorem xw_64 : Cond.code yX0_init cX0_init 2 none ∈ xT := List.mem_of_getElem? (i := 64) (by decide +kernel)
theorem xw_65 : Cond.methodLink RX0 3 objectInit ∈ xT := List.mem_of_getElem? (i := 65) (by decide +kernel)
theorem xw_66 : Cond.classLink RX0 11 RX4 ∈ xT := List.mem_of_getElem? (i := 66) (by decide +kernel)
theorem xw_67 : Cond.fieldLink RX0 13 "CoughLamps$History" "states" "[LCoughLamps$Street;" ∈ xT := List.mem_of_getElem? (i := 67) (by decide +kernel)
theorem xw_68 : Cond.methodLink RX0 17 yX4_init ∈ xT := List.mem_of_getElem? (i := 68) (by decide +kernel)
theorem xw_69 : Cond.instanceMethod yX3_init ∈ xT := List.mem_of_getElem? (i := 69) (by decide +kernel)
theorem xw_70 : Cond.code yX3_init cX3_init 1 none ∈ xT := List.mem_of_getElem? (i := 70) (by decide +kernel)
theorem xw_71 : Cond.methodLink RX3 3 objectInit ∈ xT := List.mem_of_getElem? (i := 71) (by decide +kernel)
theorem xw_72 : Cond.arrayClass .char ∈ xT := List.mem_of_getElem? (i := 72) (by decide +kernel)
theorem xw_73 : Cond.fieldLink RX3 9 "CoughLamps$Pad" "signs" "[C" ∈ xT := List.mem_of_getElem? (i := 73) (by decide +kernel)
theorem xw_74 : Cond.fieldLink RX3 15 "CoughLamps$Pad" "numbers" "[I" ∈ xT := List.mem_of_getElem? (i := 74) (by decide +kernel)
theorem xw_75 : Cond.methodLink RL 12 yX7_init ∈ xT := List.mem_of_getElem? (i := 75) (by decide +kernel)
theorem xw_76 : Cond.instanceMethod yX7_init ∈ xT := List.mem_of_getElem? (i := 76) (by decide +kernel)
theorem xw_77 : Cond.code yX7_init cX7_init 1 none ∈ xT := List.mem_of_getElem? (i := 77) (by decide +kernel)
theorem xw_78 : Cond.methodLink RX7 1 objectInit ∈ xT := List.mem_of_getElem? (i := 78) (by decide +kernel)
theorem xw_79 : Cond.fieldLink RX7 7 "CoughLampsModel" "at" "[I" ∈ xT := List.mem_of_getElem? (i := 79) (by decide +kernel)
theorem xw_80 : Cond.fieldLink RX7 13 "CoughLampsModel" "past" "[I" ∈ xT := List.mem_of_getElem? (i := 80) (by decide +kernel)
theorem xw_81 : Cond.fieldLink RX7 16 "CoughLampsModel" "slots" "[I" ∈ xT := List.mem_of_getElem? (i := 81) (by decide +kernel)
theorem xw_82 : Cond.fieldLink RX7 19 "CoughLampsModel" "isSaved" "[Z" ∈ xT := List.mem_of_getElem? (i := 82) (by decide +kernel)
theorem xw_83 : Cond.fieldLink RX7 23 "CoughLampsModel" "aside" "[I" ∈ xT := List.mem_of_getElem? (i := 83) (by decide +kernel)
theorem xw_84 : Cond.fieldLink RX7 26 "CoughLampsModel" "ranks" "[I" ∈ xT := List.mem_of_getElem? (i := 84) (by decide +kernel)
theorem xw_85 : Cond.fieldLink RX7 29 "CoughLampsModel" "were" "[I" ∈ xT := List.mem_of_getElem? (i := 85) (by decide +kernel)
theorem xw_86 : Cond.fieldLink RX7 32 "CoughLampsModel" "pad" "[I" ∈ xT := List.mem_of_getElem? (i := 86) (by decide +kernel)
theorem xw_87 : Cond.fieldLink RX7 35 "CoughLampsModel" "sort" "[I" ∈ xT := List.mem_of_getElem? (i := 87) (by decide +kernel)
theorem xw_88 : Cond.fieldLink RX7 38 "CoughLampsModel" "begins" "[I" ∈ xT := List.mem_of_getElem? (i := 88) (by decide +kernel)
theorem xw_89 : Cond.fieldLink RX7 41 "CoughLampsModel" "numbers" "[I" ∈ xT := List.mem_of_getElem? (i := 89) (by decide +kernel)
theorem xw_90 : Cond.methodLink RL 13 yX6_set ∈ xT := List.mem_of_getElem? (i := 90) (by decide +kernel)
theorem xw_91 : Cond.instanceMethod yX6_set ∈ xT := List.mem_of_getElem? (i := 91) (by decide +kernel)
theorem xw_92 : Cond.selects RX6 yX6_set yX6_set ∈ xT := List.mem_of_getElem? (i := 92) (by decide +kernel)
theorem xw_93 : Cond.code yX6_set cX6_set 3 (some .int) ∈ xT := List.mem_of_getElem? (i := 93) (by decide +kernel)
theorem xw_94 : Cond.methodLink RX6 41 yX0_draft ∈ xT := List.mem_of_getElem? (i := 94) (by decide +kernel)
theorem xw_95 : Cond.instanceMethod yX0_draft ∈ xT := List.mem_of_getElem? (i := 95) (by decide +kernel)
theorem xw_96 : Cond.selects RX0 yX0_draft yX0_draft ∈ xT := List.mem_of_getElem? (i := 96) (by decide +kernel)
theorem xw_97 : Cond.code yX0_draft cX0_draft 2 none ∈ xT := List.mem_of_getElem? (i := 97) (by decide +kernel)
theorem xw_98 : Cond.fieldLink RX0 18 "CoughLamps$History" "draftPlace" "I" ∈ xT := List.mem_of_getElem? (i := 98) (by decide +kernel)
theorem xw_99 : Cond.methodLink RX0 22 yX4_become ∈ xT := List.mem_of_getElem? (i := 99) (by decide +kernel)
theorem xw_100 : Cond.instanceMethod yX4_become ∈ xT := List.mem_of_getElem? (i := 100) (by decide +kernel)
theorem xw_101 : Cond.selects RX4 yX4_become yX4_become ∈ xT := List.mem_of_getElem? (i := 101) (by decide +kernel)
theorem xw_102 : Cond.code yX4_become cX4_become 3 none ∈ xT := List.mem_of_getElem? (i := 102) (by decide +kernel)
theorem xw_103 : Cond.fieldLink RX4 45 "CoughLamps$Street" "lampCount" "I" ∈ xT := List.mem_of_getElem? (i := 103) (by decide +kernel)
theorem xw_104 : Cond.fieldLink RX4 53 "CoughLamps$Street" "houseCount" "I" ∈ xT := List.mem_of_getElem? (i := 104) (by decide +kernel)
theorem xw_105 : Cond.fieldLink RX4 59 "CoughLamps$Street" "walkerCount" "I" ∈ xT := List.mem_of_getElem? (i := 105) (by decide +kernel)
theorem xw_106 : Cond.fieldLink RX4 65 "CoughLamps$Street" "tick" "I" ∈ xT := List.mem_of_getElem? (i := 106) (by decide +kernel)
theorem xw_107 : Cond.methodLink RX4 49 yX2_copyFrom ∈ xT := List.mem_of_getElem? (i := 107) (by decide +kernel)
theorem xw_108 : Cond.instanceMethod yX2_copyFrom ∈ xT := List.mem_of_getElem? (i := 108) (by decide +kernel)
theorem xw_109 : Cond.selects RX2 yX2_copyFrom yX2_copyFrom ∈ xT := List.mem_of_getElem? (i := 109) (by decide +kernel)
theorem xw_110 : Cond.code yX2_copyFrom cX2_copyFrom 2 none ∈ xT := List.mem_of_getElem? (i := 110) (by decide +kernel)
theorem xw_111 : Cond.fieldLink RX2 9 "CoughLamps$Lamp" "step" "I" ∈ xT := List.mem_of_getElem? (i := 111) (by decide +kernel)
theorem xw_112 : Cond.fieldLink RX2 15 "CoughLamps$Lamp" "shine" "I" ∈ xT := List.mem_of_getElem? (i := 112) (by decide +kernel)
theorem xw_113 : Cond.fieldLink RX2 18 "CoughLamps$Lamp" "does" "I" ∈ xT := List.mem_of_getElem? (i := 113) (by decide +kernel)
theorem xw_114 : Cond.fieldLink RX2 21 "CoughLamps$Lamp" "how" "I" ∈ xT := List.mem_of_getElem? (i := 114) (by decide +kernel)
theorem xw_115 : Cond.fieldLink RX2 24 "CoughLamps$Lamp" "left" "I" ∈ xT := List.mem_of_getElem? (i := 115) (by decide +kernel)
theorem xw_116 : Cond.fieldLink RX2 27 "CoughLamps$Lamp" "wait" "I" ∈ xT := List.mem_of_getElem? (i := 116) (by decide +kernel)
theorem xw_117 : Cond.fieldLink RX2 30 "CoughLamps$Lamp" "rank" "I" ∈ xT := List.mem_of_getElem? (i := 117) (by decide +kernel)
theorem xw_118 : Cond.fieldLink RX2 33 "CoughLamps$Lamp" "light" "I" ∈ xT := List.mem_of_getElem? (i := 118) (by decide +kernel)
theorem xw_119 : Cond.fieldLink RX2 36 "CoughLamps$Lamp" "coughs" "I" ∈ xT := List.mem_of_getElem? (i := 119) (by decide +kernel)
theorem xw_120 : Cond.fieldLink RX2 39 "CoughLamps$Lamp" "heard" "I" ∈ xT := List.mem_of_getElem? (i := 120) (by decide +kernel)
theorem xw_121 : Cond.fieldLink RX2 42 "CoughLamps$Lamp" "blamed" "I" ∈ xT := List.mem_of_getElem? (i := 121) (by decide +kernel)
theorem xw_122 : Cond.methodLink RX4 56 yX1_copyFrom ∈ xT := List.mem_of_getElem? (i := 122) (by decide +kernel)
theorem xw_123 : Cond.instanceMethod yX1_copyFrom ∈ xT := List.mem_of_getElem? (i := 123) (by decide +kernel)
theorem xw_124 : Cond.selects RX1 yX1_copyFrom yX1_copyFrom ∈ xT := List.mem_of_getElem? (i := 124) (by decide +kernel)
theorem xw_125 : Cond.code yX1_copyFrom cX1_copyFrom 2 none ∈ xT := List.mem_of_getElem? (i := 125) (by decide +kernel)
theorem xw_126 : Cond.fieldLink RX1 7 "CoughLamps$House" "step" "I" ∈ xT := List.mem_of_getElem? (i := 126) (by decide +kernel)
theorem xw_127 : Cond.fieldLink RX1 13 "CoughLamps$House" "disturbed" "I" ∈ xT := List.mem_of_getElem? (i := 127) (by decide +kernel)
theorem xw_128 : Cond.methodLink RX4 62 yX5_copyFrom ∈ xT := List.mem_of_getElem? (i := 128) (by decide +kernel)
theorem xw_129 : Cond.instanceMethod yX5_copyFrom ∈ xT := List.mem_of_getElem? (i := 129) (by decide +kernel)
theorem xw_130 : Cond.selects RX5 yX5_copyFrom yX5_copyFrom ∈ xT := List.mem_of_getElem? (i := 130) (by decide +kernel)
theorem xw_131 : Cond.code yX5_copyFrom cX5_copyFrom 2 none ∈ xT := List.mem_of_getElem? (i := 131) (by decide +kernel)
theorem xw_132 : Cond.methodLink RX5 41 arraycopyName ∈ xT := List.mem_of_getElem? (i := 132) (by decide +kernel)
theorem xw_133 : Cond.fieldLink RX5 18 "CoughLamps$Walker" "goals" "I" ∈ xT := List.mem_of_getElem? (i := 133) (by decide +kernel)
theorem xw_134 : Cond.fieldLink RX5 22 "CoughLamps$Walker" "step" "I" ∈ xT := List.mem_of_getElem? (i := 134) (by decide +kernel)
theorem xw_135 : Cond.fieldLink RX5 25 "CoughLamps$Walker" "pace" "I" ∈ xT := List.mem_of_getElem? (i := 135) (by decide +kernel)
theorem xw_136 : Cond.fieldLink RX5 28 "CoughLamps$Walker" "home" "Z" ∈ xT := List.mem_of_getElem? (i := 136) (by decide +kernel)
theorem xw_137 : Cond.fieldLink RX5 32 "CoughLamps$Walker" "rested" "I" ∈ xT := List.mem_of_getElem? (i := 137) (by decide +kernel)
theorem xw_138 : Cond.fieldLink RX5 35 "CoughLamps$Walker" "dark" "I" ∈ xT := List.mem_of_getElem? (i := 138) (by decide +kernel)
theorem xw_139 : Cond.fieldLink RX5 38 "CoughLamps$Walker" "walked" "I" ∈ xT := List.mem_of_getElem? (i := 139) (by decide +kernel)
theorem xw_140 : Cond.methodLink RX6 45 yX4_changeSetting ∈ xT := List.mem_of_getElem? (i := 140) (by decide +kernel)
theorem xw_141 : Cond.instanceMethod yX4_changeSetting ∈ xT := List.mem_of_getElem? (i := 141) (by decide +kernel)
theorem xw_142 : Cond.selects RX4 yX4_changeSetting yX4_changeSetting ∈ xT := List.mem_of_getElem? (i := 142) (by decide +kernel)
theorem xw_143 : Cond.code yX4_changeSetting cX4_changeSetting 4 (some .int) ∈ xT := List.mem_of_getElem? (i := 143) (by decide +kernel)
theorem xw_144 : Cond.static yX6_within ∈ xT := List.mem_of_getElem? (i := 144) (by decide +kernel)
theorem xw_145 : Cond.code yX6_within cX6_within 3 (some .boolean) ∈ xT := List.mem_of_getElem? (i := 145) (by decide +kernel)
theorem xw_146 : Cond.methodLink RX6 49 yX0_keepUnlessError ∈ xT := List.mem_of_getElem? (i := 146) (by decide +kernel)
theorem xw_147 : Cond.instanceMethod yX0_keepUnlessError ∈ xT := List.mem_of_getElem? (i := 147) (by decide +kernel)
theorem xw_148 : Cond.selects RX0 yX0_keepUnlessError yX0_keepUnlessError ∈ xT := List.mem_of_getElem? (i := 148) (by decide +kernel)
theorem xw_149 : Cond.code yX0_keepUnlessError cX0_keepUnlessError 2 (some .int) ∈ xT := List.mem_of_getElem? (i := 149) (by decide +kernel)
theorem xw_150 : Cond.fieldLink RX0 26 "CoughLamps$History" "size" "I" ∈ xT := List.mem_of_getElem? (i := 150) (by decide +kernel)
theorem xw_151 : Cond.methodLink RX0 29 Lib.Math.min.name ∈ xT := List.mem_of_getElem? (i := 151) (by decide +kernel)
theorem xw_152 : Cond.static Lib.Math.min.name ∈ xT := List.mem_of_getElem? (i := 152) (by decide +kernel)
theorem xw_153 : Cond.initialized "java/lang/Math" ∈ xT := List.mem_of_getElem? (i := 153) (by decide +kernel)
theorem xw_154 : Cond.code Lib.Math.min.name Lib.Math.min.code 2 (some .int) ∈ xT := List.mem_of_getElem? (i := 154) (by decide +kernel)
theorem xw_155 : Cond.methodLink RL 17 yX7_set ∈ xT := List.mem_of_getElem? (i := 155) (by decide +kernel)
theorem xw_156 : Cond.instanceMethod yX7_set ∈ xT := List.mem_of_getElem? (i := 156) (by decide +kernel)
theorem xw_157 : Cond.selects RX7 yX7_set yX7_set ∈ xT := List.mem_of_getElem? (i := 157) (by decide +kernel)
theorem xw_158 : Cond.code yX7_set cX7_set 4 (some .int) ∈ xT := List.mem_of_getElem? (i := 158) (by decide +kernel)
theorem xw_159 : Cond.methodLink RX7 44 yX7_in ∈ xT := List.mem_of_getElem? (i := 159) (by decide +kernel)
theorem xw_160 : Cond.static yX7_in ∈ xT := List.mem_of_getElem? (i := 160) (by decide +kernel)
theorem xw_161 : Cond.code yX7_in cX7_in 3 (some .boolean) ∈ xT := List.mem_of_getElem? (i := 161) (by decide +kernel)
theorem xw_162 : Cond.methodLink RX7 136 yX7_highest ∈ xT := List.mem_of_getElem? (i := 162) (by decide +kernel)
theorem xw_163 : Cond.static yX7_highest ∈ xT := List.mem_of_getElem? (i := 163) (by decide +kernel)
theorem xw_164 : Cond.code yX7_highest cX7_highest 1 (some .int) ∈ xT := List.mem_of_getElem? (i := 164) (by decide +kernel)
theorem xw_165 : Cond.methodLink RX7 59 yX7_keep ∈ xT := List.mem_of_getElem? (i := 165) (by decide +kernel)
theorem xw_166 : Cond.instanceMethod yX7_keep ∈ xT := List.mem_of_getElem? (i := 166) (by decide +kernel)
theorem xw_167 : Cond.selects RX7 yX7_keep yX7_keep ∈ xT := List.mem_of_getElem? (i := 167) (by decide +kernel)
theorem xw_168 : Cond.code yX7_keep cX7_keep 3 none ∈ xT := List.mem_of_getElem? (i := 168) (by decide +kernel)
theorem xw_169 : Cond.fieldLink RX7 52 "CoughLampsModel" "pastMany" "I" ∈ xT := List.mem_of_getElem? (i := 169) (by decide +kernel)
theorem xw_170 : Cond.fieldLink RX7 56 "CoughLampsModel" "pastFirst" "I" ∈ xT := List.mem_of_getElem? (i := 170) (by decide +kernel)
theorem xw_171 : Cond.methodLink RL 18 yX6_lamp ∈ xT := List.mem_of_getElem? (i := 171) (by decide +kernel)
theorem xw_172 : Cond.instanceMethod yX6_lamp ∈ xT := List.mem_of_getElem? (i := 172) (by decide +kernel)
theorem xw_173 : Cond.selects RX6 yX6_lamp yX6_lamp ∈ xT := List.mem_of_getElem? (i := 173) (by decide +kernel)
theorem xw_174 : Cond.code yX6_lamp cX6_lamp 3 (some .int) ∈ xT := List.mem_of_getElem? (i := 174) (by decide +kernel)
theorem xw_175 : Cond.methodLink RX6 53 yX4_addLamp ∈ xT := List.mem_of_getElem? (i := 175) (by decide +kernel)
theorem xw_176 : Cond.instanceMethod yX4_addLamp ∈ xT := List.mem_of_getElem? (i := 176) (by decide +kernel)
theorem xw_177 : Cond.selects RX4 yX4_addLamp yX4_addLamp ∈ xT := List.mem_of_getElem? (i := 177) (by decide +kernel)
theorem xw_178 : Cond.code yX4_addLamp cX4_addLamp 4 (some .int) ∈ xT := List.mem_of_getElem? (i := 178) (by decide +kernel)
theorem xw_179 : Cond.fieldLink RX4 82 "CoughLamps$Lamp" "step" "I" ∈ xT := List.mem_of_getElem? (i := 179) (by decide +kernel)
theorem xw_180 : Cond.static yX6_isStep ∈ xT := List.mem_of_getElem? (i := 180) (by decide +kernel)
theorem xw_181 : Cond.code yX6_isStep cX6_isStep 1 (some .boolean) ∈ xT := List.mem_of_getElem? (i := 181) (by decide +kernel)
theorem xw_182 : Cond.methodLink RX6 119 yX6_within ∈ xT := List.mem_of_getElem? (i := 182) (by decide +kernel)
theorem xw_183 : Cond.methodLink RX4 85 yX2_place ∈ xT := List.mem_of_getElem? (i := 183) (by decide +kernel)
theorem xw_184 : Cond.instanceMethod yX2_place ∈ xT := List.mem_of_getElem? (i := 184) (by decide +kernel)
theorem xw_185 : Cond.selects RX2 yX2_place yX2_place ∈ xT := List.mem_of_getElem? (i := 185) (by decide +kernel)
theorem xw_186 : Cond.code yX2_place cX2_place 3 none ∈ xT := List.mem_of_getElem? (i := 186) (by decide +kernel)
theorem xw_187 : Cond.methodLink RL 21 yX7_lamp ∈ xT := List.mem_of_getElem? (i := 187) (by decide +kernel)
theorem xw_188 : Cond.instanceMethod yX7_lamp ∈ xT := List.mem_of_getElem? (i := 188) (by decide +kernel)
theorem xw_189 : Cond.selects RX7 yX7_lamp yX7_lamp ∈ xT := List.mem_of_getElem? (i := 189) (by decide +kernel)
theorem xw_190 : Cond.code yX7_lamp cX7_lamp 3 (some .int) ∈ xT := List.mem_of_getElem? (i := 190) (by decide +kernel)
theorem xw_191 : Cond.methodLink RX7 139 yX7_isStep ∈ xT := List.mem_of_getElem? (i := 191) (by decide +kernel)
theorem xw_192 : Cond.static yX7_isStep ∈ xT := List.mem_of_getElem? (i := 192) (by decide +kernel)
theorem xw_193 : Cond.code yX7_isStep cX7_isStep 1 (some .boolean) ∈ xT := List.mem_of_getElem? (i := 193) (by decide +kernel)
theorem xw_194 : Cond.methodLink RX7 142 yX7_lampAt ∈ xT := List.mem_of_getElem? (i := 194) (by decide +kernel)
theorem xw_195 : Cond.instanceMethod yX7_lampAt ∈ xT := List.mem_of_getElem? (i := 195) (by decide +kernel)
theorem xw_196 : Cond.selects RX7 yX7_lampAt yX7_lampAt ∈ xT := List.mem_of_getElem? (i := 196) (by decide +kernel)
theorem xw_197 : Cond.code yX7_lampAt cX7_lampAt 3 (some .int) ∈ xT := List.mem_of_getElem? (i := 197) (by decide +kernel)
theorem xw_198 : Cond.methodLink RX7 62 yX7_ofL ∈ xT := List.mem_of_getElem? (i := 198) (by decide +kernel)
theorem xw_199 : Cond.instanceMethod yX7_ofL ∈ xT := List.mem_of_getElem? (i := 199) (by decide +kernel)
theorem xw_200 : Cond.selects RX7 yX7_ofL yX7_ofL ∈ xT := List.mem_of_getElem? (i := 200) (by decide +kernel)
theorem xw_201 : Cond.code yX7_ofL cX7_ofL 3 (some .int) ∈ xT := List.mem_of_getElem? (i := 201) (by decide +kernel)
theorem xw_202 : Cond.methodLink RX7 75 yX7_layL ∈ xT := List.mem_of_getElem? (i := 202) (by decide +kernel)
theorem xw_203 : Cond.instanceMethod yX7_layL ∈ xT := List.mem_of_getElem? (i := 203) (by decide +kernel)
theorem xw_204 : Cond.selects RX7 yX7_layL yX7_layL ∈ xT := List.mem_of_getElem? (i := 204) (by decide +kernel)
theorem xw_205 : Cond.code yX7_layL cX7_layL 4 none ∈ xT := List.mem_of_getElem? (i := 205) (by decide +kernel)
theorem xw_206 : Cond.methodLink RL 22 yX6_house ∈ xT := List.mem_of_getElem? (i := 206) (by decide +kernel)
theorem xw_207 : Cond.instanceMethod yX6_house ∈ xT := List.mem_of_getElem? (i := 207) (by decide +kernel)
theorem xw_208 : Cond.selects RX6 yX6_house yX6_house ∈ xT := List.mem_of_getElem? (i := 208) (by decide +kernel)
theorem xw_209 : Cond.code yX6_house cX6_house 2 (some .int) ∈ xT := List.mem_of_getElem? (i := 209) (by decide +kernel)
theorem xw_210 : Cond.methodLink RX6 56 yX4_addHouse ∈ xT := List.mem_of_getElem? (i := 210) (by decide +kernel)
theorem xw_211 : Cond.instanceMethod yX4_addHouse ∈ xT := List.mem_of_getElem? (i := 211) (by decide +kernel)
theorem xw_212 : Cond.selects RX4 yX4_addHouse yX4_addHouse ∈ xT := List.mem_of_getElem? (i := 212) (by decide +kernel)
theorem xw_213 : Cond.code yX4_addHouse cX4_addHouse 2 (some .int) ∈ xT := List.mem_of_getElem? (i := 213) (by decide +kernel)
theorem xw_214 : Cond.methodLink RX4 89 yX1_place ∈ xT := List.mem_of_getElem? (i := 214) (by decide +kernel)
theorem xw_215 : Cond.instanceMethod yX1_place ∈ xT := List.mem_of_getElem? (i := 215) (by decide +kernel)
theorem xw_216 : Cond.selects RX1 yX1_place yX1_place ∈ xT := List.mem_of_getElem? (i := 216) (by decide +kernel)
theorem xw_217 : Cond.code yX1_place cX1_place 2 none ∈ xT := List.mem_of_getElem? (i := 217) (by decide +kernel)
theorem xw_218 : Cond.methodLink RL 26 yX7_house ∈ xT := List.mem_of_getElem? (i := 218) (by decide +kernel)
theorem xw_219 : Cond.instanceMethod yX7_house ∈ xT := List.mem_of_getElem? (i := 219) (by decide +kernel)
theorem xw_220 : Cond.selects RX7 yX7_house yX7_house ∈ xT := List.mem_of_getElem? (i := 220) (by decide +kernel)
theorem xw_221 : Cond.code yX7_house cX7_house 2 (some .int) ∈ xT := List.mem_of_getElem? (i := 221) (by decide +kernel)
theorem xw_222 : Cond.methodLink RL 27 yX6_walker ∈ xT := List.mem_of_getElem? (i := 222) (by decide +kernel)
theorem xw_223 : Cond.instanceMethod yX6_walker ∈ xT := List.mem_of_getElem? (i := 223) (by decide +kernel)
theorem xw_224 : Cond.selects RX6 yX6_walker yX6_walker ∈ xT := List.mem_of_getElem? (i := 224) (by decide +kernel)
theorem xw_225 : Cond.code yX6_walker cX6_walker 3 (some .int) ∈ xT := List.mem_of_getElem? (i := 225) (by decide +kernel)
theorem xw_226 : Cond.methodLink RX6 59 yX4_addWalker ∈ xT := List.mem_of_getElem? (i := 226) (by decide +kernel)
theorem xw_227 : Cond.instanceMethod yX4_addWalker ∈ xT := List.mem_of_getElem? (i := 227) (by decide +kernel)
theorem xw_228 : Cond.selects RX4 yX4_addWalker yX4_addWalker ∈ xT := List.mem_of_getElem? (i := 228) (by decide +kernel)
theorem xw_229 : Cond.code yX4_addWalker cX4_addWalker 3 (some .int) ∈ xT := List.mem_of_getElem? (i := 229) (by decide +kernel)
theorem xw_230 : Cond.methodLink RX4 92 yX5_place ∈ xT := List.mem_of_getElem? (i := 230) (by decide +kernel)
theorem xw_231 : Cond.instanceMethod yX5_place ∈ xT := List.mem_of_getElem? (i := 231) (by decide +kernel)
theorem xw_232 : Cond.selects RX5 yX5_place yX5_place ∈ xT := List.mem_of_getElem? (i := 232) (by decide +kernel)
theorem xw_233 : Cond.code yX5_place cX5_place 3 none ∈ xT := List.mem_of_getElem? (i := 233) (by decide +kernel)
theorem xw_234 : Cond.methodLink RL 30 yX7_walker ∈ xT := List.mem_of_getElem? (i := 234) (by decide +kernel)
theorem xw_235 : Cond.instanceMethod yX7_walker ∈ xT := List.mem_of_getElem? (i := 235) (by decide +kernel)
theorem xw_236 : Cond.selects RX7 yX7_walker yX7_walker ∈ xT := List.mem_of_getElem? (i := 236) (by decide +kernel)
theorem xw_237 : Cond.code yX7_walker cX7_walker 3 (some .int) ∈ xT := List.mem_of_getElem? (i := 237) (by decide +kernel)
theorem xw_238 : Cond.methodLink RX7 149 yX7_tryWalker ∈ xT := List.mem_of_getElem? (i := 238) (by decide +kernel)
theorem xw_239 : Cond.instanceMethod yX7_tryWalker ∈ xT := List.mem_of_getElem? (i := 239) (by decide +kernel)
theorem xw_240 : Cond.selects RX7 yX7_tryWalker yX7_tryWalker ∈ xT := List.mem_of_getElem? (i := 240) (by decide +kernel)
theorem xw_241 : Cond.code yX7_tryWalker cX7_tryWalker 4 (some .int) ∈ xT := List.mem_of_getElem? (i := 241) (by decide +kernel)
theorem xw_242 : Cond.methodLink RX7 145 yX7_keepIf ∈ xT := List.mem_of_getElem? (i := 242) (by decide +kernel)
theorem xw_243 : Cond.instanceMethod yX7_keepIf ∈ xT := List.mem_of_getElem? (i := 243) (by decide +kernel)
theorem xw_244 : Cond.selects RX7 yX7_keepIf yX7_keepIf ∈ xT := List.mem_of_getElem? (i := 244) (by decide +kernel)
theorem xw_245 : Cond.code yX7_keepIf cX7_keepIf 2 none ∈ xT := List.mem_of_getElem? (i := 245) (by decide +kernel)
theorem xw_246 : Cond.methodLink RX7 89 yX7_layW ∈ xT := List.mem_of_getElem? (i := 246) (by decide +kernel)
theorem xw_247 : Cond.instanceMethod yX7_layW ∈ xT := List.mem_of_getElem? (i := 247) (by decide +kernel)
theorem xw_248 : Cond.selects RX7 yX7_layW yX7_layW ∈ xT := List.mem_of_getElem? (i := 248) (by decide +kernel)
theorem xw_249 : Cond.code yX7_layW cX7_layW 4 none ∈ xT := List.mem_of_getElem? (i := 249) (by decide +kernel)
theorem xw_250 : Cond.methodLink RL 31 yX6_goal ∈ xT := List.mem_of_getElem? (i := 250) (by decide +kernel)
theorem xw_251 : Cond.instanceMethod yX6_goal ∈ xT := List.mem_of_getElem? (i := 251) (by decide +kernel)
theorem xw_252 : Cond.selects RX6 yX6_goal yX6_goal ∈ xT := List.mem_of_getElem? (i := 252) (by decide +kernel)
theorem xw_253 : Cond.code yX6_goal cX6_goal 4 (some .int) ∈ xT := List.mem_of_getElem? (i := 253) (by decide +kernel)
theorem xw_254 : Cond.methodLink RX6 62 yX4_giveGoal ∈ xT := List.mem_of_getElem? (i := 254) (by decide +kernel)
theorem xw_255 : Cond.instanceMethod yX4_giveGoal ∈ xT := List.mem_of_getElem? (i := 255) (by decide +kernel)
theorem xw_256 : Cond.selects RX4 yX4_giveGoal yX4_giveGoal ∈ xT := List.mem_of_getElem? (i := 256) (by decide +kernel)
theorem xw_257 : Cond.code yX4_giveGoal cX4_giveGoal 4 (some .int) ∈ xT := List.mem_of_getElem? (i := 257) (by decide +kernel)
theorem xw_258 : Cond.methodLink RX4 93 yX4_hasWalker ∈ xT := List.mem_of_getElem? (i := 258) (by decide +kernel)
theorem xw_259 : Cond.instanceMethod yX4_hasWalker ∈ xT := List.mem_of_getElem? (i := 259) (by decide +kernel)
theorem xw_260 : Cond.selects RX4 yX4_hasWalker yX4_hasWalker ∈ xT := List.mem_of_getElem? (i := 260) (by decide +kernel)
theorem xw_261 : Cond.code yX4_hasWalker cX4_hasWalker 2 (some .boolean) ∈ xT := List.mem_of_getElem? (i := 261) (by decide +kernel)
theorem xw_262 : Cond.methodLink RX4 96 yX5_addGoal ∈ xT := List.mem_of_getElem? (i := 262) (by decide +kernel)
theorem xw_263 : Cond.instanceMethod yX5_addGoal ∈ xT := List.mem_of_getElem? (i := 263) (by decide +kernel)
theorem xw_264 : Cond.selects RX5 yX5_addGoal yX5_addGoal ∈ xT := List.mem_of_getElem? (i := 264) (by decide +kernel)
theorem xw_265 : Cond.code yX5_addGoal cX5_addGoal 3 (some .int) ∈ xT := List.mem_of_getElem? (i := 265) (by decide +kernel)
theorem xw_266 : Cond.methodLink RL 35 yX7_goal ∈ xT := List.mem_of_getElem? (i := 266) (by decide +kernel)
theorem xw_267 : Cond.instanceMethod yX7_goal ∈ xT := List.mem_of_getElem? (i := 267) (by decide +kernel)
theorem xw_268 : Cond.selects RX7 yX7_goal yX7_goal ∈ xT := List.mem_of_getElem? (i := 268) (by decide +kernel)
theorem xw_269 : Cond.code yX7_goal cX7_goal 4 (some .int) ∈ xT := List.mem_of_getElem? (i := 269) (by decide +kernel)
theorem xw_270 : Cond.methodLink RX7 156 yX7_tryGoal ∈ xT := List.mem_of_getElem? (i := 270) (by decide +kernel)
theorem xw_271 : Cond.instanceMethod yX7_tryGoal ∈ xT := List.mem_of_getElem? (i := 271) (by decide +kernel)
theorem xw_272 : Cond.selects RX7 yX7_tryGoal yX7_tryGoal ∈ xT := List.mem_of_getElem? (i := 272) (by decide +kernel)
theorem xw_273 : Cond.code yX7_tryGoal cX7_tryGoal 5 (some .int) ∈ xT := List.mem_of_getElem? (i := 273) (by decide +kernel)
theorem xw_274 : Cond.methodLink RX7 153 yX7_isWalker ∈ xT := List.mem_of_getElem? (i := 274) (by decide +kernel)
theorem xw_275 : Cond.instanceMethod yX7_isWalker ∈ xT := List.mem_of_getElem? (i := 275) (by decide +kernel)
theorem xw_276 : Cond.selects RX7 yX7_isWalker yX7_isWalker ∈ xT := List.mem_of_getElem? (i := 276) (by decide +kernel)
theorem xw_277 : Cond.code yX7_isWalker cX7_isWalker 2 (some .boolean) ∈ xT := List.mem_of_getElem? (i := 277) (by decide +kernel)
theorem xw_278 : Cond.methodLink RX7 48 yX7_ofW ∈ xT := List.mem_of_getElem? (i := 278) (by decide +kernel)
theorem xw_279 : Cond.instanceMethod yX7_ofW ∈ xT := List.mem_of_getElem? (i := 279) (by decide +kernel)
theorem xw_280 : Cond.selects RX7 yX7_ofW yX7_ofW ∈ xT := List.mem_of_getElem? (i := 280) (by decide +kernel)
theorem xw_281 : Cond.code yX7_ofW cX7_ofW 3 (some .int) ∈ xT := List.mem_of_getElem? (i := 281) (by decide +kernel)
theorem xw_282 : Cond.methodLink RX7 95 yX7_isInStreet ∈ xT := List.mem_of_getElem? (i := 282) (by decide +kernel)
theorem xw_283 : Cond.instanceMethod yX7_isInStreet ∈ xT := List.mem_of_getElem? (i := 283) (by decide +kernel)
theorem xw_284 : Cond.selects RX7 yX7_isInStreet yX7_isInStreet ∈ xT := List.mem_of_getElem? (i := 284) (by decide +kernel)
theorem xw_285 : Cond.code yX7_isInStreet cX7_isInStreet 2 (some .boolean) ∈ xT := List.mem_of_getElem? (i := 285) (by decide +kernel)
theorem xw_286 : Cond.methodLink RL 36 yX6_mend ∈ xT := List.mem_of_getElem? (i := 286) (by decide +kernel)
theorem xw_287 : Cond.instanceMethod yX6_mend ∈ xT := List.mem_of_getElem? (i := 287) (by decide +kernel)
theorem xw_288 : Cond.selects RX6 yX6_mend yX6_mend ∈ xT := List.mem_of_getElem? (i := 288) (by decide +kernel)
theorem xw_289 : Cond.code yX6_mend cX6_mend 3 (some .int) ∈ xT := List.mem_of_getElem? (i := 289) (by decide +kernel)
theorem xw_290 : Cond.methodLink RX6 66 yX4_mendLamp ∈ xT := List.mem_of_getElem? (i := 290) (by decide +kernel)
theorem xw_291 : Cond.instanceMethod yX4_mendLamp ∈ xT := List.mem_of_getElem? (i := 291) (by decide +kernel)
theorem xw_292 : Cond.selects RX4 yX4_mendLamp yX4_mendLamp ∈ xT := List.mem_of_getElem? (i := 292) (by decide +kernel)
theorem xw_293 : Cond.code yX4_mendLamp cX4_mendLamp 4 (some .int) ∈ xT := List.mem_of_getElem? (i := 293) (by decide +kernel)
theorem xw_294 : Cond.fieldLink RX4 103 "CoughLamps$Lamp" "how" "I" ∈ xT := List.mem_of_getElem? (i := 294) (by decide +kernel)
theorem xw_295 : Cond.methodLink RX4 100 yX4_hasLamp ∈ xT := List.mem_of_getElem? (i := 295) (by decide +kernel)
theorem xw_296 : Cond.instanceMethod yX4_hasLamp ∈ xT := List.mem_of_getElem? (i := 296) (by decide +kernel)
theorem xw_297 : Cond.selects RX4 yX4_hasLamp yX4_hasLamp ∈ xT := List.mem_of_getElem? (i := 297) (by decide +kernel)
theorem xw_298 : Cond.code yX4_hasLamp cX4_hasLamp 2 (some .boolean) ∈ xT := List.mem_of_getElem? (i := 298) (by decide +kernel)
theorem xw_299 : Cond.methodLink RX4 106 yX2_becomes ∈ xT := List.mem_of_getElem? (i := 299) (by decide +kernel)
theorem xw_300 : Cond.instanceMethod yX2_becomes ∈ xT := List.mem_of_getElem? (i := 300) (by decide +kernel)
theorem xw_301 : Cond.selects RX2 yX2_becomes yX2_becomes ∈ xT := List.mem_of_getElem? (i := 301) (by decide +kernel)
theorem xw_302 : Cond.code yX2_becomes cX2_becomes 2 none ∈ xT := List.mem_of_getElem? (i := 302) (by decide +kernel)
theorem xw_303 : Cond.methodLink RL 39 yX7_mend ∈ xT := List.mem_of_getElem? (i := 303) (by decide +kernel)
theorem xw_304 : Cond.instanceMethod yX7_mend ∈ xT := List.mem_of_getElem? (i := 304) (by decide +kernel)
theorem xw_305 : Cond.selects RX7 yX7_mend yX7_mend ∈ xT := List.mem_of_getElem? (i := 305) (by decide +kernel)
theorem xw_306 : Cond.code yX7_mend cX7_mend 3 (some .int) ∈ xT := List.mem_of_getElem? (i := 306) (by decide +kernel)
theorem xw_307 : Cond.methodLink RX7 167 yX7_tryMend ∈ xT := List.mem_of_getElem? (i := 307) (by decide +kernel)
theorem xw_308 : Cond.instanceMethod yX7_tryMend ∈ xT := List.mem_of_getElem? (i := 308) (by decide +kernel)
theorem xw_309 : Cond.selects RX7 yX7_tryMend yX7_tryMend ∈ xT := List.mem_of_getElem? (i := 309) (by decide +kernel)
theorem xw_310 : Cond.code yX7_tryMend cX7_tryMend 5 (some .int) ∈ xT := List.mem_of_getElem? (i := 310) (by decide +kernel)
theorem xw_311 : Cond.methodLink RX7 160 yX7_isLamp ∈ xT := List.mem_of_getElem? (i := 311) (by decide +kernel)
theorem xw_312 : Cond.instanceMethod yX7_isLamp ∈ xT := List.mem_of_getElem? (i := 312) (by decide +kernel)
theorem xw_313 : Cond.selects RX7 yX7_isLamp yX7_isLamp ∈ xT := List.mem_of_getElem? (i := 313) (by decide +kernel)
theorem xw_314 : Cond.code yX7_isLamp cX7_isLamp 2 (some .boolean) ∈ xT := List.mem_of_getElem? (i := 314) (by decide +kernel)
theorem xw_315 : Cond.methodLink RX7 163 yX7_mendTo ∈ xT := List.mem_of_getElem? (i := 315) (by decide +kernel)
theorem xw_316 : Cond.instanceMethod yX7_mendTo ∈ xT := List.mem_of_getElem? (i := 316) (by decide +kernel)
theorem xw_317 : Cond.selects RX7 yX7_mendTo yX7_mendTo ∈ xT := List.mem_of_getElem? (i := 317) (by decide +kernel)
theorem xw_318 : Cond.code yX7_mendTo cX7_mendTo 3 none ∈ xT := List.mem_of_getElem? (i := 318) (by decide +kernel)
theorem xw_319 : Cond.methodLink RX7 102 yX7_stopWaiting ∈ xT := List.mem_of_getElem? (i := 319) (by decide +kernel)
theorem xw_320 : Cond.instanceMethod yX7_stopWaiting ∈ xT := List.mem_of_getElem? (i := 320) (by decide +kernel)
theorem xw_321 : Cond.selects RX7 yX7_stopWaiting yX7_stopWaiting ∈ xT := List.mem_of_getElem? (i := 321) (by decide +kernel)
theorem xw_322 : Cond.code yX7_stopWaiting cX7_stopWaiting 2 none ∈ xT := List.mem_of_getElem? (i := 322) (by decide +kernel)
theorem xw_323 : Cond.methodLink RL 40 yX6_cough ∈ xT := List.mem_of_getElem? (i := 323) (by decide +kernel)
theorem xw_324 : Cond.instanceMethod yX6_cough ∈ xT := List.mem_of_getElem? (i := 324) (by decide +kernel)
theorem xw_325 : Cond.selects RX6 yX6_cough yX6_cough ∈ xT := List.mem_of_getElem? (i := 325) (by decide +kernel)
theorem xw_326 : Cond.code yX6_cough cX6_cough 2 (some .int) ∈ xT := List.mem_of_getElem? (i := 326) (by decide +kernel)
theorem xw_327 : Cond.methodLink RX6 69 yX4_coughByOrder ∈ xT := List.mem_of_getElem? (i := 327) (by decide +kernel)
theorem xw_328 : Cond.instanceMethod yX4_coughByOrder ∈ xT := List.mem_of_getElem? (i := 328) (by decide +kernel)
theorem xw_329 : Cond.selects RX4 yX4_coughByOrder yX4_coughByOrder ∈ xT := List.mem_of_getElem? (i := 329) (by decide +kernel)
theorem xw_330 : Cond.code yX4_coughByOrder cX4_coughByOrder 2 (some .int) ∈ xT := List.mem_of_getElem? (i := 330) (by decide +kernel)
theorem xw_331 : Cond.methodLink RX4 109 yX4_forgetLastTick ∈ xT := List.mem_of_getElem? (i := 331) (by decide +kernel)
theorem xw_332 : Cond.instanceMethod yX4_forgetLastTick ∈ xT := List.mem_of_getElem? (i := 332) (by decide +kernel)
theorem xw_333 : Cond.selects RX4 yX4_forgetLastTick yX4_forgetLastTick ∈ xT := List.mem_of_getElem? (i := 333) (by decide +kernel)
theorem xw_334 : Cond.code yX4_forgetLastTick cX4_forgetLastTick 2 none ∈ xT := List.mem_of_getElem? (i := 334) (by decide +kernel)
theorem xw_335 : Cond.methodLink RX4 133 yX2_forgetTick ∈ xT := List.mem_of_getElem? (i := 335) (by decide +kernel)
theorem xw_336 : Cond.instanceMethod yX2_forgetTick ∈ xT := List.mem_of_getElem? (i := 336) (by decide +kernel)
theorem xw_337 : Cond.selects RX2 yX2_forgetTick yX2_forgetTick ∈ xT := List.mem_of_getElem? (i := 337) (by decide +kernel)
theorem xw_338 : Cond.code yX2_forgetTick cX2_forgetTick 1 none ∈ xT := List.mem_of_getElem? (i := 338) (by decide +kernel)
theorem xw_339 : Cond.fieldLink RX2 45 "CoughLamps$Lamp" "anew" "Z" ∈ xT := List.mem_of_getElem? (i := 339) (by decide +kernel)
theorem xw_340 : Cond.fieldLink RX2 49 "CoughLamps$Lamp" "coughed" "Z" ∈ xT := List.mem_of_getElem? (i := 340) (by decide +kernel)
theorem xw_341 : Cond.methodLink RX4 112 yX4_spreadCough ∈ xT := List.mem_of_getElem? (i := 341) (by decide +kernel)
theorem xw_342 : Cond.instanceMethod yX4_spreadCough ∈ xT := List.mem_of_getElem? (i := 342) (by decide +kernel)
theorem xw_343 : Cond.selects RX4 yX4_spreadCough yX4_spreadCough ∈ xT := List.mem_of_getElem? (i := 343) (by decide +kernel)
theorem xw_344 : Cond.code yX4_spreadCough cX4_spreadCough 5 (some .int) ∈ xT := List.mem_of_getElem? (i := 344) (by decide +kernel)
theorem xw_345 : Cond.fieldLink RX4 192 "CoughLamps$Lamp" "coughs" "I" ∈ xT := List.mem_of_getElem? (i := 345) (by decide +kernel)
theorem xw_346 : Cond.methodLink RX4 195 yX4_hears ∈ xT := List.mem_of_getElem? (i := 346) (by decide +kernel)
theorem xw_347 : Cond.instanceMethod yX4_hears ∈ xT := List.mem_of_getElem? (i := 347) (by decide +kernel)
theorem xw_348 : Cond.selects RX4 yX4_hears yX4_hears ∈ xT := List.mem_of_getElem? (i := 348) (by decide +kernel)
theorem xw_349 : Cond.code yX4_hears cX4_hears 3 (some .boolean) ∈ xT := List.mem_of_getElem? (i := 349) (by decide +kernel)
theorem xw_350 : Cond.methodLink RX4 164 yX2_distanceTo ∈ xT := List.mem_of_getElem? (i := 350) (by decide +kernel)
theorem xw_351 : Cond.instanceMethod yX2_distanceTo ∈ xT := List.mem_of_getElem? (i := 351) (by decide +kernel)
theorem xw_352 : Cond.selects RX2 yX2_distanceTo yX2_distanceTo ∈ xT := List.mem_of_getElem? (i := 352) (by decide +kernel)
theorem xw_353 : Cond.code yX2_distanceTo cX2_distanceTo 2 (some .int) ∈ xT := List.mem_of_getElem? (i := 353) (by decide +kernel)
theorem xw_354 : Cond.methodLink RX2 52 Lib.Math.abs.name ∈ xT := List.mem_of_getElem? (i := 354) (by decide +kernel)
theorem xw_355 : Cond.static Lib.Math.abs.name ∈ xT := List.mem_of_getElem? (i := 355) (by decide +kernel)
theorem xw_356 : Cond.code Lib.Math.abs.name Lib.Math.abs.code 1 (some .int) ∈ xT := List.mem_of_getElem? (i := 356) (by decide +kernel)
theorem xw_357 : Cond.methodLink RX4 199 yX2_hear ∈ xT := List.mem_of_getElem? (i := 357) (by decide +kernel)
theorem xw_358 : Cond.instanceMethod yX2_hear ∈ xT := List.mem_of_getElem? (i := 358) (by decide +kernel)
theorem xw_359 : Cond.selects RX2 yX2_hear yX2_hear ∈ xT := List.mem_of_getElem? (i := 359) (by decide +kernel)
theorem xw_360 : Cond.code yX2_hear cX2_hear 3 none ∈ xT := List.mem_of_getElem? (i := 360) (by decide +kernel)
theorem xw_361 : Cond.methodLink RX2 61 yX2_wake ∈ xT := List.mem_of_getElem? (i := 361) (by decide +kernel)
theorem xw_362 : Cond.instanceMethod yX2_wake ∈ xT := List.mem_of_getElem? (i := 362) (by decide +kernel)
theorem xw_363 : Cond.selects RX2 yX2_wake yX2_wake ∈ xT := List.mem_of_getElem? (i := 363) (by decide +kernel)
theorem xw_364 : Cond.code yX2_wake cX2_wake 2 none ∈ xT := List.mem_of_getElem? (i := 364) (by decide +kernel)
theorem xw_365 : Cond.methodLink RL 43 yX7_cough ∈ xT := List.mem_of_getElem? (i := 365) (by decide +kernel)
theorem xw_366 : Cond.instanceMethod yX7_cough ∈ xT := List.mem_of_getElem? (i := 366) (by decide +kernel)
theorem xw_367 : Cond.selects RX7 yX7_cough yX7_cough ∈ xT := List.mem_of_getElem? (i := 367) (by decide +kernel)
theorem xw_368 : Cond.code yX7_cough cX7_cough 2 (some .int) ∈ xT := List.mem_of_getElem? (i := 368) (by decide +kernel)
theorem xw_369 : Cond.methodLink RX7 170 yX7_tryCough ∈ xT := List.mem_of_getElem? (i := 369) (by decide +kernel)
theorem xw_370 : Cond.instanceMethod yX7_tryCough ∈ xT := List.mem_of_getElem? (i := 370) (by decide +kernel)
theorem xw_371 : Cond.selects RX7 yX7_tryCough yX7_tryCough ∈ xT := List.mem_of_getElem? (i := 371) (by decide +kernel)
theorem xw_372 : Cond.code yX7_tryCough cX7_tryCough 4 (some .int) ∈ xT := List.mem_of_getElem? (i := 372) (by decide +kernel)
theorem xw_373 : Cond.methodLink RX7 105 yX7_coughs ∈ xT := List.mem_of_getElem? (i := 373) (by decide +kernel)
theorem xw_374 : Cond.instanceMethod yX7_coughs ∈ xT := List.mem_of_getElem? (i := 374) (by decide +kernel)
theorem xw_375 : Cond.selects RX7 yX7_coughs yX7_coughs ∈ xT := List.mem_of_getElem? (i := 375) (by decide +kernel)
theorem xw_376 : Cond.code yX7_coughs cX7_coughs 5 (some .int) ∈ xT := List.mem_of_getElem? (i := 376) (by decide +kernel)
theorem xw_377 : Cond.methodLink RX7 79 yX7_moreL ∈ xT := List.mem_of_getElem? (i := 377) (by decide +kernel)
theorem xw_378 : Cond.instanceMethod yX7_moreL ∈ xT := List.mem_of_getElem? (i := 378) (by decide +kernel)
theorem xw_379 : Cond.selects RX7 yX7_moreL yX7_moreL ∈ xT := List.mem_of_getElem? (i := 379) (by decide +kernel)
theorem xw_380 : Cond.code yX7_moreL cX7_moreL 4 none ∈ xT := List.mem_of_getElem? (i := 380) (by decide +kernel)
theorem xw_381 : Cond.methodLink RX7 82 yX7_hears ∈ xT := List.mem_of_getElem? (i := 381) (by decide +kernel)
theorem xw_382 : Cond.instanceMethod yX7_hears ∈ xT := List.mem_of_getElem? (i := 382) (by decide +kernel)
theorem xw_383 : Cond.selects RX7 yX7_hears yX7_hears ∈ xT := List.mem_of_getElem? (i := 383) (by decide +kernel)
theorem xw_384 : Cond.code yX7_hears cX7_hears 3 (some .boolean) ∈ xT := List.mem_of_getElem? (i := 384) (by decide +kernel)
theorem xw_385 : Cond.methodLink RX7 65 yX7_far ∈ xT := List.mem_of_getElem? (i := 385) (by decide +kernel)
theorem xw_386 : Cond.static yX7_far ∈ xT := List.mem_of_getElem? (i := 386) (by decide +kernel)
theorem xw_387 : Cond.code yX7_far cX7_far 2 (some .int) ∈ xT := List.mem_of_getElem? (i := 387) (by decide +kernel)
theorem xw_388 : Cond.methodLink RX7 85 yX7_shine ∈ xT := List.mem_of_getElem? (i := 388) (by decide +kernel)
theorem xw_389 : Cond.instanceMethod yX7_shine ∈ xT := List.mem_of_getElem? (i := 389) (by decide +kernel)
theorem xw_390 : Cond.selects RX7 yX7_shine yX7_shine ∈ xT := List.mem_of_getElem? (i := 390) (by decide +kernel)
theorem xw_391 : Cond.code yX7_shine cX7_shine 2 none ∈ xT := List.mem_of_getElem? (i := 391) (by decide +kernel)
theorem xw_392 : Cond.methodLink RL 44 yX6_ticks ∈ xT := List.mem_of_getElem? (i := 392) (by decide +kernel)
theorem xw_393 : Cond.instanceMethod yX6_ticks ∈ xT := List.mem_of_getElem? (i := 393) (by decide +kernel)
theorem xw_394 : Cond.selects RX6 yX6_ticks yX6_ticks ∈ xT := List.mem_of_getElem? (i := 394) (by decide +kernel)
theorem xw_395 : Cond.code yX6_ticks cX6_ticks 2 (some .int) ∈ xT := List.mem_of_getElem? (i := 395) (by decide +kernel)
theorem xw_396 : Cond.methodLink RX6 72 yX4_letPass ∈ xT := List.mem_of_getElem? (i := 396) (by decide +kernel)
theorem xw_397 : Cond.instanceMethod yX4_letPass ∈ xT := List.mem_of_getElem? (i := 397) (by decide +kernel)
theorem xw_398 : Cond.selects RX4 yX4_letPass yX4_letPass ∈ xT := List.mem_of_getElem? (i := 398) (by decide +kernel)
theorem xw_399 : Cond.code yX4_letPass cX4_letPass 3 (some .int) ∈ xT := List.mem_of_getElem? (i := 399) (by decide +kernel)
theorem xw_400 : Cond.static yX6_isTicks ∈ xT := List.mem_of_getElem? (i := 400) (by decide +kernel)
theorem xw_401 : Cond.code yX6_isTicks cX6_isTicks 1 (some .boolean) ∈ xT := List.mem_of_getElem? (i := 401) (by decide +kernel)
theorem xw_402 : Cond.methodLink RX4 118 yX4_moveWalkers ∈ xT := List.mem_of_getElem? (i := 402) (by decide +kernel)
theorem xw_403 : Cond.instanceMethod yX4_moveWalkers ∈ xT := List.mem_of_getElem? (i := 403) (by decide +kernel)
theorem xw_404 : Cond.selects RX4 yX4_moveWalkers yX4_moveWalkers ∈ xT := List.mem_of_getElem? (i := 404) (by decide +kernel)
theorem xw_405 : Cond.code yX4_moveWalkers cX4_moveWalkers 2 none ∈ xT := List.mem_of_getElem? (i := 405) (by decide +kernel)
theorem xw_406 : Cond.methodLink RX4 136 yX5_go ∈ xT := List.mem_of_getElem? (i := 406) (by decide +kernel)
theorem xw_407 : Cond.instanceMethod yX5_go ∈ xT := List.mem_of_getElem? (i := 407) (by decide +kernel)
theorem xw_408 : Cond.selects RX5 yX5_go yX5_go ∈ xT := List.mem_of_getElem? (i := 408) (by decide +kernel)
theorem xw_409 : Cond.code yX5_go cX5_go 3 none ∈ xT := List.mem_of_getElem? (i := 409) (by decide +kernel)
theorem xw_410 : Cond.methodLink RX5 50 Lib.Math.min.name ∈ xT := List.mem_of_getElem? (i := 410) (by decide +kernel)
theorem xw_411 : Cond.methodLink RX5 56 Lib.Math.max.name ∈ xT := List.mem_of_getElem? (i := 411) (by decide +kernel)
theorem xw_412 : Cond.static Lib.Math.max.name ∈ xT := List.mem_of_getElem? (i := 412) (by decide +kernel)
theorem xw_413 : Cond.code Lib.Math.max.name Lib.Math.max.code 2 (some .int) ∈ xT := List.mem_of_getElem? (i := 413) (by decide +kernel)
theorem xw_414 : Cond.methodLink RX5 59 Lib.Math.abs.name ∈ xT := List.mem_of_getElem? (i := 414) (by decide +kernel)
theorem xw_415 : Cond.methodLink RX5 47 yX5_finishGoal ∈ xT := List.mem_of_getElem? (i := 415) (by decide +kernel)
theorem xw_416 : Cond.instanceMethod yX5_finishGoal ∈ xT := List.mem_of_getElem? (i := 416) (by decide +kernel)
theorem xw_417 : Cond.selects RX5 yX5_finishGoal yX5_finishGoal ∈ xT := List.mem_of_getElem? (i := 417) (by decide +kernel)
theorem xw_418 : Cond.code yX5_finishGoal cX5_finishGoal 1 none ∈ xT := List.mem_of_getElem? (i := 418) (by decide +kernel)
theorem xw_419 : Cond.methodLink RX5 63 yX5_arrive ∈ xT := List.mem_of_getElem? (i := 419) (by decide +kernel)
theorem xw_420 : Cond.instanceMethod yX5_arrive ∈ xT := List.mem_of_getElem? (i := 420) (by decide +kernel)
theorem xw_421 : Cond.selects RX5 yX5_arrive yX5_arrive ∈ xT := List.mem_of_getElem? (i := 421) (by decide +kernel)
theorem xw_422 : Cond.code yX5_arrive cX5_arrive 1 none ∈ xT := List.mem_of_getElem? (i := 422) (by decide +kernel)
theorem xw_423 : Cond.methodLink RX4 121 yX4_coughThoseWhoWaited ∈ xT := List.mem_of_getElem? (i := 423) (by decide +kernel)
theorem xw_424 : Cond.instanceMethod yX4_coughThoseWhoWaited ∈ xT := List.mem_of_getElem? (i := 424) (by decide +kernel)
theorem xw_425 : Cond.selects RX4 yX4_coughThoseWhoWaited yX4_coughThoseWhoWaited ∈ xT := List.mem_of_getElem? (i := 425) (by decide +kernel)
theorem xw_426 : Cond.code yX4_coughThoseWhoWaited cX4_coughThoseWhoWaited 4 none ∈ xT := List.mem_of_getElem? (i := 426) (by decide +kernel)
theorem xw_427 : Cond.fieldLink RX4 139 "CoughLamps$Lamp" "wait" "I" ∈ xT := List.mem_of_getElem? (i := 427) (by decide +kernel)
theorem xw_428 : Cond.fieldLink RX4 145 "CoughLamps$Lamp" "rank" "I" ∈ xT := List.mem_of_getElem? (i := 428) (by decide +kernel)
theorem xw_429 : Cond.methodLink RX4 142 yX2_takeTurn ∈ xT := List.mem_of_getElem? (i := 429) (by decide +kernel)
theorem xw_430 : Cond.instanceMethod yX2_takeTurn ∈ xT := List.mem_of_getElem? (i := 430) (by decide +kernel)
theorem xw_431 : Cond.selects RX2 yX2_takeTurn yX2_takeTurn ∈ xT := List.mem_of_getElem? (i := 431) (by decide +kernel)
theorem xw_432 : Cond.code yX2_takeTurn cX2_takeTurn 1 none ∈ xT := List.mem_of_getElem? (i := 432) (by decide +kernel)
theorem xw_433 : Cond.methodLink RX4 124 yX4_wakeThoseWhoSee ∈ xT := List.mem_of_getElem? (i := 433) (by decide +kernel)
theorem xw_434 : Cond.instanceMethod yX4_wakeThoseWhoSee ∈ xT := List.mem_of_getElem? (i := 434) (by decide +kernel)
theorem xw_435 : Cond.selects RX4 yX4_wakeThoseWhoSee yX4_wakeThoseWhoSee ∈ xT := List.mem_of_getElem? (i := 435) (by decide +kernel)
theorem xw_436 : Cond.code yX4_wakeThoseWhoSee cX4_wakeThoseWhoSee 3 none ∈ xT := List.mem_of_getElem? (i := 436) (by decide +kernel)
theorem xw_437 : Cond.methodLink RX4 148 yX4_lampsThatAre ∈ xT := List.mem_of_getElem? (i := 437) (by decide +kernel)
theorem xw_438 : Cond.instanceMethod yX4_lampsThatAre ∈ xT := List.mem_of_getElem? (i := 438) (by decide +kernel)
theorem xw_439 : Cond.selects RX4 yX4_lampsThatAre yX4_lampsThatAre ∈ xT := List.mem_of_getElem? (i := 439) (by decide +kernel)
theorem xw_440 : Cond.code yX4_lampsThatAre cX4_lampsThatAre 4 (some .int) ∈ xT := List.mem_of_getElem? (i := 440) (by decide +kernel)
theorem xw_441 : Cond.fieldLink RX4 203 "CoughLamps$Lamp" "does" "I" ∈ xT := List.mem_of_getElem? (i := 441) (by decide +kernel)
theorem xw_442 : Cond.methodLink RX4 152 yX4_seesWalker ∈ xT := List.mem_of_getElem? (i := 442) (by decide +kernel)
theorem xw_443 : Cond.instanceMethod yX4_seesWalker ∈ xT := List.mem_of_getElem? (i := 443) (by decide +kernel)
theorem xw_444 : Cond.selects RX4 yX4_seesWalker yX4_seesWalker ∈ xT := List.mem_of_getElem? (i := 444) (by decide +kernel)
theorem xw_445 : Cond.code yX4_seesWalker cX4_seesWalker 3 (some .boolean) ∈ xT := List.mem_of_getElem? (i := 445) (by decide +kernel)
theorem xw_446 : Cond.fieldLink RX4 159 "CoughLamps$Walker" "home" "Z" ∈ xT := List.mem_of_getElem? (i := 446) (by decide +kernel)
theorem xw_447 : Cond.fieldLink RX4 163 "CoughLamps$Walker" "step" "I" ∈ xT := List.mem_of_getElem? (i := 447) (by decide +kernel)
theorem xw_448 : Cond.methodLink RX4 156 yX2_wake ∈ xT := List.mem_of_getElem? (i := 448) (by decide +kernel)
theorem xw_449 : Cond.methodLink RX4 127 yX4_fadeLamps ∈ xT := List.mem_of_getElem? (i := 449) (by decide +kernel)
theorem xw_450 : Cond.instanceMethod yX4_fadeLamps ∈ xT := List.mem_of_getElem? (i := 450) (by decide +kernel)
theorem xw_451 : Cond.selects RX4 yX4_fadeLamps yX4_fadeLamps ∈ xT := List.mem_of_getElem? (i := 451) (by decide +kernel)
theorem xw_452 : Cond.code yX4_fadeLamps cX4_fadeLamps 2 none ∈ xT := List.mem_of_getElem? (i := 452) (by decide +kernel)
theorem xw_453 : Cond.methodLink RX4 167 yX2_fade ∈ xT := List.mem_of_getElem? (i := 453) (by decide +kernel)
theorem xw_454 : Cond.instanceMethod yX2_fade ∈ xT := List.mem_of_getElem? (i := 454) (by decide +kernel)
theorem xw_455 : Cond.selects RX2 yX2_fade yX2_fade ∈ xT := List.mem_of_getElem? (i := 455) (by decide +kernel)
theorem xw_456 : Cond.code yX2_fade cX2_fade 2 none ∈ xT := List.mem_of_getElem? (i := 456) (by decide +kernel)
theorem xw_457 : Cond.methodLink RX4 130 yX4_tally ∈ xT := List.mem_of_getElem? (i := 457) (by decide +kernel)
theorem xw_458 : Cond.instanceMethod yX4_tally ∈ xT := List.mem_of_getElem? (i := 458) (by decide +kernel)
theorem xw_459 : Cond.selects RX4 yX4_tally yX4_tally ∈ xT := List.mem_of_getElem? (i := 459) (by decide +kernel)
theorem xw_460 : Cond.code yX4_tally cX4_tally 3 none ∈ xT := List.mem_of_getElem? (i := 460) (by decide +kernel)
theorem xw_461 : Cond.fieldLink RX4 176 "CoughLamps$Walker" "dark" "I" ∈ xT := List.mem_of_getElem? (i := 461) (by decide +kernel)
theorem xw_462 : Cond.fieldLink RX4 186 "CoughLamps$House" "disturbed" "I" ∈ xT := List.mem_of_getElem? (i := 462) (by decide +kernel)
theorem xw_463 : Cond.methodLink RX4 170 yX2_useLight ∈ xT := List.mem_of_getElem? (i := 463) (by decide +kernel)
theorem xw_464 : Cond.instanceMethod yX2_useLight ∈ xT := List.mem_of_getElem? (i := 464) (by decide +kernel)
theorem xw_465 : Cond.selects RX2 yX2_useLight yX2_useLight ∈ xT := List.mem_of_getElem? (i := 465) (by decide +kernel)
theorem xw_466 : Cond.code yX2_useLight cX2_useLight 1 none ∈ xT := List.mem_of_getElem? (i := 466) (by decide +kernel)
theorem xw_467 : Cond.methodLink RX4 173 yX4_lampsThatLight ∈ xT := List.mem_of_getElem? (i := 467) (by decide +kernel)
theorem xw_468 : Cond.instanceMethod yX4_lampsThatLight ∈ xT := List.mem_of_getElem? (i := 468) (by decide +kernel)
theorem xw_469 : Cond.selects RX4 yX4_lampsThatLight yX4_lampsThatLight ∈ xT := List.mem_of_getElem? (i := 469) (by decide +kernel)
theorem xw_470 : Cond.code yX4_lampsThatLight cX4_lampsThatLight 4 (some .int) ∈ xT := List.mem_of_getElem? (i := 470) (by decide +kernel)
theorem xw_471 : Cond.methodLink RX4 206 yX2_lights ∈ xT := List.mem_of_getElem? (i := 471) (by decide +kernel)
theorem xw_472 : Cond.instanceMethod yX2_lights ∈ xT := List.mem_of_getElem? (i := 472) (by decide +kernel)
theorem xw_473 : Cond.selects RX2 yX2_lights yX2_lights ∈ xT := List.mem_of_getElem? (i := 473) (by decide +kernel)
theorem xw_474 : Cond.code yX2_lights cX2_lights 2 (some .boolean) ∈ xT := List.mem_of_getElem? (i := 474) (by decide +kernel)
theorem xw_475 : Cond.methodLink RX2 58 yX2_distanceTo ∈ xT := List.mem_of_getElem? (i := 475) (by decide +kernel)
theorem xw_476 : Cond.methodLink RX4 179 yX4_blameNearest ∈ xT := List.mem_of_getElem? (i := 476) (by decide +kernel)
theorem xw_477 : Cond.instanceMethod yX4_blameNearest ∈ xT := List.mem_of_getElem? (i := 477) (by decide +kernel)
theorem xw_478 : Cond.selects RX4 yX4_blameNearest yX4_blameNearest ∈ xT := List.mem_of_getElem? (i := 478) (by decide +kernel)
theorem xw_479 : Cond.code yX4_blameNearest cX4_blameNearest 4 none ∈ xT := List.mem_of_getElem? (i := 479) (by decide +kernel)
theorem xw_480 : Cond.fieldLink RX4 189 "CoughLamps$Lamp" "blamed" "I" ∈ xT := List.mem_of_getElem? (i := 480) (by decide +kernel)
theorem xw_481 : Cond.methodLink RX4 182 yX4_isDisturbed ∈ xT := List.mem_of_getElem? (i := 481) (by decide +kernel)
theorem xw_482 : Cond.instanceMethod yX4_isDisturbed ∈ xT := List.mem_of_getElem? (i := 482) (by decide +kernel)
theorem xw_483 : Cond.selects RX4 yX4_isDisturbed yX4_isDisturbed ∈ xT := List.mem_of_getElem? (i := 483) (by decide +kernel)
theorem xw_484 : Cond.code yX4_isDisturbed cX4_isDisturbed 3 (some .boolean) ∈ xT := List.mem_of_getElem? (i := 484) (by decide +kernel)
theorem xw_485 : Cond.fieldLink RX4 209 "CoughLamps$House" "step" "I" ∈ xT := List.mem_of_getElem? (i := 485) (by decide +kernel)
theorem xw_486 : Cond.methodLink RX4 210 yX2_disturbs ∈ xT := List.mem_of_getElem? (i := 486) (by decide +kernel)
theorem xw_487 : Cond.instanceMethod yX2_disturbs ∈ xT := List.mem_of_getElem? (i := 487) (by decide +kernel)
theorem xw_488 : Cond.selects RX2 yX2_disturbs yX2_disturbs ∈ xT := List.mem_of_getElem? (i := 488) (by decide +kernel)
theorem xw_489 : Cond.code yX2_disturbs cX2_disturbs 2 (some .boolean) ∈ xT := List.mem_of_getElem? (i := 489) (by decide +kernel)
theorem xw_490 : Cond.methodLink RL 47 yX7_ticks ∈ xT := List.mem_of_getElem? (i := 490) (by decide +kernel)
theorem xw_491 : Cond.instanceMethod yX7_ticks ∈ xT := List.mem_of_getElem? (i := 491) (by decide +kernel)
theorem xw_492 : Cond.selects RX7 yX7_ticks yX7_ticks ∈ xT := List.mem_of_getElem? (i := 492) (by decide +kernel)
theorem xw_493 : Cond.code yX7_ticks cX7_ticks 2 (some .int) ∈ xT := List.mem_of_getElem? (i := 493) (by decide +kernel)
theorem xw_494 : Cond.methodLink RX7 177 yX7_tryTicks ∈ xT := List.mem_of_getElem? (i := 494) (by decide +kernel)
theorem xw_495 : Cond.instanceMethod yX7_tryTicks ∈ xT := List.mem_of_getElem? (i := 495) (by decide +kernel)
theorem xw_496 : Cond.selects RX7 yX7_tryTicks yX7_tryTicks ∈ xT := List.mem_of_getElem? (i := 496) (by decide +kernel)
theorem xw_497 : Cond.code yX7_tryTicks cX7_tryTicks 4 (some .int) ∈ xT := List.mem_of_getElem? (i := 497) (by decide +kernel)
theorem xw_498 : Cond.methodLink RX7 174 yX7_pass ∈ xT := List.mem_of_getElem? (i := 498) (by decide +kernel)
theorem xw_499 : Cond.instanceMethod yX7_pass ∈ xT := List.mem_of_getElem? (i := 499) (by decide +kernel)
theorem xw_500 : Cond.selects RX7 yX7_pass yX7_pass ∈ xT := List.mem_of_getElem? (i := 500) (by decide +kernel)
theorem xw_501 : Cond.code yX7_pass cX7_pass 2 none ∈ xT := List.mem_of_getElem? (i := 501) (by decide +kernel)
theorem xw_502 : Cond.methodLink RX7 121 yX7_go ∈ xT := List.mem_of_getElem? (i := 502) (by decide +kernel)
theorem xw_503 : Cond.instanceMethod yX7_go ∈ xT := List.mem_of_getElem? (i := 503) (by decide +kernel)
theorem xw_504 : Cond.selects RX7 yX7_go yX7_go ∈ xT := List.mem_of_getElem? (i := 504) (by decide +kernel)
theorem xw_505 : Cond.code yX7_go cX7_go 2 none ∈ xT := List.mem_of_getElem? (i := 505) (by decide +kernel)
theorem xw_506 : Cond.methodLink RX7 99 yX7_walk ∈ xT := List.mem_of_getElem? (i := 506) (by decide +kernel)
theorem xw_507 : Cond.instanceMethod yX7_walk ∈ xT := List.mem_of_getElem? (i := 507) (by decide +kernel)
theorem xw_508 : Cond.selects RX7 yX7_walk yX7_walk ∈ xT := List.mem_of_getElem? (i := 508) (by decide +kernel)
theorem xw_509 : Cond.code yX7_walk cX7_walk 5 none ∈ xT := List.mem_of_getElem? (i := 509) (by decide +kernel)
theorem xw_510 : Cond.methodLink RX7 92 yX7_endGoal ∈ xT := List.mem_of_getElem? (i := 510) (by decide +kernel)
theorem xw_511 : Cond.instanceMethod yX7_endGoal ∈ xT := List.mem_of_getElem? (i := 511) (by decide +kernel)
theorem xw_512 : Cond.selects RX7 yX7_endGoal yX7_endGoal ∈ xT := List.mem_of_getElem? (i := 512) (by decide +kernel)
theorem xw_513 : Cond.code yX7_endGoal cX7_endGoal 3 none ∈ xT := List.mem_of_getElem? (i := 513) (by decide +kernel)
theorem xw_514 : Cond.methodLink RX7 124 yX7_coughAgain ∈ xT := List.mem_of_getElem? (i := 514) (by decide +kernel)
theorem xw_515 : Cond.instanceMethod yX7_coughAgain ∈ xT := List.mem_of_getElem? (i := 515) (by decide +kernel)
theorem xw_516 : Cond.selects RX7 yX7_coughAgain yX7_coughAgain ∈ xT := List.mem_of_getElem? (i := 516) (by decide +kernel)
theorem xw_517 : Cond.code yX7_coughAgain cX7_coughAgain 2 none ∈ xT := List.mem_of_getElem? (i := 517) (by decide +kernel)
theorem xw_518 : Cond.methodLink RX7 127 yX7_look ∈ xT := List.mem_of_getElem? (i := 518) (by decide +kernel)
theorem xw_519 : Cond.instanceMethod yX7_look ∈ xT := List.mem_of_getElem? (i := 519) (by decide +kernel)
theorem xw_520 : Cond.selects RX7 yX7_look yX7_look ∈ xT := List.mem_of_getElem? (i := 520) (by decide +kernel)
theorem xw_521 : Cond.code yX7_look cX7_look 2 none ∈ xT := List.mem_of_getElem? (i := 521) (by decide +kernel)
theorem xw_522 : Cond.methodLink RX7 108 yX7_sees ∈ xT := List.mem_of_getElem? (i := 522) (by decide +kernel)
theorem xw_523 : Cond.instanceMethod yX7_sees ∈ xT := List.mem_of_getElem? (i := 523) (by decide +kernel)
theorem xw_524 : Cond.selects RX7 yX7_sees yX7_sees ∈ xT := List.mem_of_getElem? (i := 524) (by decide +kernel)
theorem xw_525 : Cond.code yX7_sees cX7_sees 4 (some .boolean) ∈ xT := List.mem_of_getElem? (i := 525) (by decide +kernel)
theorem xw_526 : Cond.methodLink RX7 130 yX7_fade ∈ xT := List.mem_of_getElem? (i := 526) (by decide +kernel)
theorem xw_527 : Cond.instanceMethod yX7_fade ∈ xT := List.mem_of_getElem? (i := 527) (by decide +kernel)
theorem xw_528 : Cond.selects RX7 yX7_fade yX7_fade ∈ xT := List.mem_of_getElem? (i := 528) (by decide +kernel)
theorem xw_529 : Cond.code yX7_fade cX7_fade 4 none ∈ xT := List.mem_of_getElem? (i := 529) (by decide +kernel)
theorem xw_530 : Cond.methodLink RX7 133 yX7_account ∈ xT := List.mem_of_getElem? (i := 530) (by decide +kernel)
theorem xw_531 : Cond.instanceMethod yX7_account ∈ xT := List.mem_of_getElem? (i := 531) (by decide +kernel)
theorem xw_532 : Cond.selects RX7 yX7_account yX7_account ∈ xT := List.mem_of_getElem? (i := 532) (by decide +kernel)
theorem xw_533 : Cond.code yX7_account cX7_account 3 none ∈ xT := List.mem_of_getElem? (i := 533) (by decide +kernel)
theorem xw_534 : Cond.methodLink RX7 111 yX7_lightOn ∈ xT := List.mem_of_getElem? (i := 534) (by decide +kernel)
theorem xw_535 : Cond.instanceMethod yX7_lightOn ∈ xT := List.mem_of_getElem? (i := 535) (by decide +kernel)
theorem xw_536 : Cond.selects RX7 yX7_lightOn yX7_lightOn ∈ xT := List.mem_of_getElem? (i := 536) (by decide +kernel)
theorem xw_537 : Cond.code yX7_lightOn cX7_lightOn 4 (some .int) ∈ xT := List.mem_of_getElem? (i := 537) (by decide +kernel)
theorem xw_538 : Cond.methodLink RX7 68 yX7_lights ∈ xT := List.mem_of_getElem? (i := 538) (by decide +kernel)
theorem xw_539 : Cond.instanceMethod yX7_lights ∈ xT := List.mem_of_getElem? (i := 539) (by decide +kernel)
theorem xw_540 : Cond.selects RX7 yX7_lights yX7_lights ∈ xT := List.mem_of_getElem? (i := 540) (by decide +kernel)
theorem xw_541 : Cond.code yX7_lights cX7_lights 5 (some .boolean) ∈ xT := List.mem_of_getElem? (i := 541) (by decide +kernel)
theorem xw_542 : Cond.methodLink RX7 115 yX7_nearestTo ∈ xT := List.mem_of_getElem? (i := 542) (by decide +kernel)
theorem xw_543 : Cond.instanceMethod yX7_nearestTo ∈ xT := List.mem_of_getElem? (i := 543) (by decide +kernel)
theorem xw_544 : Cond.selects RX7 yX7_nearestTo yX7_nearestTo ∈ xT := List.mem_of_getElem? (i := 544) (by decide +kernel)
theorem xw_545 : Cond.code yX7_nearestTo cX7_nearestTo 4 (some .int) ∈ xT := List.mem_of_getElem? (i := 545) (by decide +kernel)
theorem xw_546 : Cond.methodLink RX7 118 yX7_isDisturbed ∈ xT := List.mem_of_getElem? (i := 546) (by decide +kernel)
theorem xw_547 : Cond.instanceMethod yX7_isDisturbed ∈ xT := List.mem_of_getElem? (i := 547) (by decide +kernel)
theorem xw_548 : Cond.selects RX7 yX7_isDisturbed yX7_isDisturbed ∈ xT := List.mem_of_getElem? (i := 548) (by decide +kernel)
theorem xw_549 : Cond.code yX7_isDisturbed cX7_isDisturbed 4 (some .boolean) ∈ xT := List.mem_of_getElem? (i := 549) (by decide +kernel)
theorem xw_550 : Cond.methodLink RX7 72 yX7_ofH ∈ xT := List.mem_of_getElem? (i := 550) (by decide +kernel)
theorem xw_551 : Cond.instanceMethod yX7_ofH ∈ xT := List.mem_of_getElem? (i := 551) (by decide +kernel)
theorem xw_552 : Cond.selects RX7 yX7_ofH yX7_ofH ∈ xT := List.mem_of_getElem? (i := 552) (by decide +kernel)
theorem xw_553 : Cond.code yX7_ofH cX7_ofH 3 (some .int) ∈ xT := List.mem_of_getElem? (i := 553) (by decide +kernel)
theorem xw_554 : Cond.methodLink RL 48 yX6_ofLamp ∈ xT := List.mem_of_getElem? (i := 554) (by decide +kernel)
theorem xw_555 : Cond.instanceMethod yX6_ofLamp ∈ xT := List.mem_of_getElem? (i := 555) (by decide +kernel)
theorem xw_556 : Cond.selects RX6 yX6_ofLamp yX6_ofLamp ∈ xT := List.mem_of_getElem? (i := 556) (by decide +kernel)
theorem xw_557 : Cond.code yX6_ofLamp cX6_ofLamp 3 (some .int) ∈ xT := List.mem_of_getElem? (i := 557) (by decide +kernel)
theorem xw_558 : Cond.fieldLink RX6 79 "CoughLamps$Street" "lamps" "[LCoughLamps$Lamp;" ∈ xT := List.mem_of_getElem? (i := 558) (by decide +kernel)
theorem xw_559 : Cond.methodLink RX6 75 yX4_hasLamp ∈ xT := List.mem_of_getElem? (i := 559) (by decide +kernel)
theorem xw_560 : Cond.methodLink RX6 83 yX2_tell ∈ xT := List.mem_of_getElem? (i := 560) (by decide +kernel)
theorem xw_561 : Cond.instanceMethod yX2_tell ∈ xT := List.mem_of_getElem? (i := 561) (by decide +kernel)
theorem xw_562 : Cond.selects RX2 yX2_tell yX2_tell ∈ xT := List.mem_of_getElem? (i := 562) (by decide +kernel)
theorem xw_563 : Cond.code yX2_tell cX2_tell 2 (some .int) ∈ xT := List.mem_of_getElem? (i := 563) (by decide +kernel)
theorem xw_564 : Cond.methodLink RL 51 yX7_ofLamp ∈ xT := List.mem_of_getElem? (i := 564) (by decide +kernel)
theorem xw_565 : Cond.instanceMethod yX7_ofLamp ∈ xT := List.mem_of_getElem? (i := 565) (by decide +kernel)
theorem xw_566 : Cond.selects RX7 yX7_ofLamp yX7_ofLamp ∈ xT := List.mem_of_getElem? (i := 566) (by decide +kernel)
theorem xw_567 : Cond.code yX7_ofLamp cX7_ofLamp 3 (some .int) ∈ xT := List.mem_of_getElem? (i := 567) (by decide +kernel)
theorem xw_568 : Cond.methodLink RL 52 yX6_ofWalker ∈ xT := List.mem_of_getElem? (i := 568) (by decide +kernel)
theorem xw_569 : Cond.instanceMethod yX6_ofWalker ∈ xT := List.mem_of_getElem? (i := 569) (by decide +kernel)
theorem xw_570 : Cond.selects RX6 yX6_ofWalker yX6_ofWalker ∈ xT := List.mem_of_getElem? (i := 570) (by decide +kernel)
theorem xw_571 : Cond.code yX6_ofWalker cX6_ofWalker 3 (some .int) ∈ xT := List.mem_of_getElem? (i := 571) (by decide +kernel)
theorem xw_572 : Cond.fieldLink RX6 91 "CoughLamps$Street" "walkers" "[LCoughLamps$Walker;" ∈ xT := List.mem_of_getElem? (i := 572) (by decide +kernel)
theorem xw_573 : Cond.methodLink RX6 88 yX4_hasWalker ∈ xT := List.mem_of_getElem? (i := 573) (by decide +kernel)
theorem xw_574 : Cond.methodLink RX6 95 yX4_tellOfWalker ∈ xT := List.mem_of_getElem? (i := 574) (by decide +kernel)
theorem xw_575 : Cond.instanceMethod yX4_tellOfWalker ∈ xT := List.mem_of_getElem? (i := 575) (by decide +kernel)
theorem xw_576 : Cond.selects RX4 yX4_tellOfWalker yX4_tellOfWalker ∈ xT := List.mem_of_getElem? (i := 576) (by decide +kernel)
theorem xw_577 : Cond.code yX4_tellOfWalker cX4_tellOfWalker 3 (some .int) ∈ xT := List.mem_of_getElem? (i := 577) (by decide +kernel)
theorem xw_578 : Cond.fieldLink RX4 213 "CoughLamps$Walker" "pace" "I" ∈ xT := List.mem_of_getElem? (i := 578) (by decide +kernel)
theorem xw_579 : Cond.fieldLink RX4 216 "CoughLamps$Walker" "goals" "I" ∈ xT := List.mem_of_getElem? (i := 579) (by decide +kernel)
theorem xw_580 : Cond.fieldLink RX4 219 "CoughLamps$Walker" "goalSteps" "[I" ∈ xT := List.mem_of_getElem? (i := 580) (by decide +kernel)
theorem xw_581 : Cond.fieldLink RX4 222 "CoughLamps$Walker" "rested" "I" ∈ xT := List.mem_of_getElem? (i := 581) (by decide +kernel)
theorem xw_582 : Cond.fieldLink RX4 225 "CoughLamps$Walker" "walked" "I" ∈ xT := List.mem_of_getElem? (i := 582) (by decide +kernel)
theorem xw_583 : Cond.methodLink RL 55 yX7_ofWalker ∈ xT := List.mem_of_getElem? (i := 583) (by decide +kernel)
theorem xw_584 : Cond.instanceMethod yX7_ofWalker ∈ xT := List.mem_of_getElem? (i := 584) (by decide +kernel)
theorem xw_585 : Cond.selects RX7 yX7_ofWalker yX7_ofWalker ∈ xT := List.mem_of_getElem? (i := 585) (by decide +kernel)
theorem xw_586 : Cond.code yX7_ofWalker cX7_ofWalker 3 (some .int) ∈ xT := List.mem_of_getElem? (i := 586) (by decide +kernel)
theorem xw_587 : Cond.methodLink RL 56 yX6_ofHouse ∈ xT := List.mem_of_getElem? (i := 587) (by decide +kernel)
theorem xw_588 : Cond.instanceMethod yX6_ofHouse ∈ xT := List.mem_of_getElem? (i := 588) (by decide +kernel)
theorem xw_589 : Cond.selects RX6 yX6_ofHouse yX6_ofHouse ∈ xT := List.mem_of_getElem? (i := 589) (by decide +kernel)
theorem xw_590 : Cond.code yX6_ofHouse cX6_ofHouse 3 (some .int) ∈ xT := List.mem_of_getElem? (i := 590) (by decide +kernel)
theorem xw_591 : Cond.fieldLink RX6 102 "CoughLamps$Street" "houses" "[LCoughLamps$House;" ∈ xT := List.mem_of_getElem? (i := 591) (by decide +kernel)
theorem xw_592 : Cond.methodLink RX6 99 yX4_hasHouse ∈ xT := List.mem_of_getElem? (i := 592) (by decide +kernel)
theorem xw_593 : Cond.instanceMethod yX4_hasHouse ∈ xT := List.mem_of_getElem? (i := 593) (by decide +kernel)
theorem xw_594 : Cond.selects RX4 yX4_hasHouse yX4_hasHouse ∈ xT := List.mem_of_getElem? (i := 594) (by decide +kernel)
theorem xw_595 : Cond.code yX4_hasHouse cX4_hasHouse 2 (some .boolean) ∈ xT := List.mem_of_getElem? (i := 595) (by decide +kernel)
theorem xw_596 : Cond.methodLink RX6 106 yX4_tellOfHouse ∈ xT := List.mem_of_getElem? (i := 596) (by decide +kernel)
theorem xw_597 : Cond.instanceMethod yX4_tellOfHouse ∈ xT := List.mem_of_getElem? (i := 597) (by decide +kernel)
theorem xw_598 : Cond.selects RX4 yX4_tellOfHouse yX4_tellOfHouse ∈ xT := List.mem_of_getElem? (i := 598) (by decide +kernel)
theorem xw_599 : Cond.code yX4_tellOfHouse cX4_tellOfHouse 3 (some .int) ∈ xT := List.mem_of_getElem? (i := 599) (by decide +kernel)
theorem xw_600 : Cond.methodLink RL 59 yX7_ofHouse ∈ xT := List.mem_of_getElem? (i := 600) (by decide +kernel)
theorem xw_601 : Cond.instanceMethod yX7_ofHouse ∈ xT := List.mem_of_getElem? (i := 601) (by decide +kernel)
theorem xw_602 : Cond.selects RX7 yX7_ofHouse yX7_ofHouse ∈ xT := List.mem_of_getElem? (i := 602) (by decide +kernel)
theorem xw_603 : Cond.code yX7_ofHouse cX7_ofHouse 3 (some .int) ∈ xT := List.mem_of_getElem? (i := 603) (by decide +kernel)
theorem xw_604 : Cond.methodLink RL 60 yX6_lightAt ∈ xT := List.mem_of_getElem? (i := 604) (by decide +kernel)
theorem xw_605 : Cond.instanceMethod yX6_lightAt ∈ xT := List.mem_of_getElem? (i := 605) (by decide +kernel)
theorem xw_606 : Cond.selects RX6 yX6_lightAt yX6_lightAt ∈ xT := List.mem_of_getElem? (i := 606) (by decide +kernel)
theorem xw_607 : Cond.code yX6_lightAt cX6_lightAt 2 (some .int) ∈ xT := List.mem_of_getElem? (i := 607) (by decide +kernel)
theorem xw_608 : Cond.methodLink RX6 110 yX6_isStep ∈ xT := List.mem_of_getElem? (i := 608) (by decide +kernel)
theorem xw_609 : Cond.methodLink RX6 113 yX4_lampsThatLight ∈ xT := List.mem_of_getElem? (i := 609) (by decide +kernel)
theorem xw_610 : Cond.methodLink RL 63 yX7_lightAt ∈ xT := List.mem_of_getElem? (i := 610) (by decide +kernel)
theorem xw_611 : Cond.instanceMethod yX7_lightAt ∈ xT := List.mem_of_getElem? (i := 611) (by decide +kernel)
theorem xw_612 : Cond.selects RX7 yX7_lightAt yX7_lightAt ∈ xT := List.mem_of_getElem? (i := 612) (by decide +kernel)
theorem xw_613 : Cond.code yX7_lightAt cX7_lightAt 2 (some .int) ∈ xT := List.mem_of_getElem? (i := 613) (by decide +kernel)
theorem xw_614 : Cond.methodLink RL 64 yX6_hearers ∈ xT := List.mem_of_getElem? (i := 614) (by decide +kernel)
theorem xw_615 : Cond.instanceMethod yX6_hearers ∈ xT := List.mem_of_getElem? (i := 615) (by decide +kernel)
theorem xw_616 : Cond.selects RX6 yX6_hearers yX6_hearers ∈ xT := List.mem_of_getElem? (i := 616) (by decide +kernel)
theorem xw_617 : Cond.code yX6_hearers cX6_hearers 2 (some .int) ∈ xT := List.mem_of_getElem? (i := 617) (by decide +kernel)
theorem xw_618 : Cond.methodLink RX6 116 yX4_lampsThatHear ∈ xT := List.mem_of_getElem? (i := 618) (by decide +kernel)
theorem xw_619 : Cond.instanceMethod yX4_lampsThatHear ∈ xT := List.mem_of_getElem? (i := 619) (by decide +kernel)
theorem xw_620 : Cond.selects RX4 yX4_lampsThatHear yX4_lampsThatHear ∈ xT := List.mem_of_getElem? (i := 620) (by decide +kernel)
theorem xw_621 : Cond.code yX4_lampsThatHear cX4_lampsThatHear 4 (some .int) ∈ xT := List.mem_of_getElem? (i := 621) (by decide +kernel)
theorem xw_622 : Cond.methodLink RL 67 yX7_hearers ∈ xT := List.mem_of_getElem? (i := 622) (by decide +kernel)
theorem xw_623 : Cond.instanceMethod yX7_hearers ∈ xT := List.mem_of_getElem? (i := 623) (by decide +kernel)
theorem xw_624 : Cond.selects RX7 yX7_hearers yX7_hearers ∈ xT := List.mem_of_getElem? (i := 624) (by decide +kernel)
theorem xw_625 : Cond.code yX7_hearers cX7_hearers 4 (some .int) ∈ xT := List.mem_of_getElem? (i := 625) (by decide +kernel)
theorem xw_626 : Cond.methodLink RL 68 yX6_count ∈ xT := List.mem_of_getElem? (i := 626) (by decide +kernel)
theorem xw_627 : Cond.instanceMethod yX6_count ∈ xT := List.mem_of_getElem? (i := 627) (by decide +kernel)
theorem xw_628 : Cond.selects RX6 yX6_count yX6_count ∈ xT := List.mem_of_getElem? (i := 628) (by decide +kernel)
theorem xw_629 : Cond.code yX6_count cX6_count 2 (some .int) ∈ xT := List.mem_of_getElem? (i := 629) (by decide +kernel)
theorem xw_630 : Cond.fieldLink RX6 123 "CoughLamps$Street" "settings" "[I" ∈ xT := List.mem_of_getElem? (i := 630) (by decide +kernel)
theorem xw_631 : Cond.fieldLink RX6 127 "CoughLamps$Street" "tick" "I" ∈ xT := List.mem_of_getElem? (i := 631) (by decide +kernel)
theorem xw_632 : Cond.fieldLink RX6 131 "CoughLamps$Street" "lampCount" "I" ∈ xT := List.mem_of_getElem? (i := 632) (by decide +kernel)
theorem xw_633 : Cond.fieldLink RX6 134 "CoughLamps$Street" "houseCount" "I" ∈ xT := List.mem_of_getElem? (i := 633) (by decide +kernel)
theorem xw_634 : Cond.fieldLink RX6 137 "CoughLamps$Street" "walkerCount" "I" ∈ xT := List.mem_of_getElem? (i := 634) (by decide +kernel)
theorem xw_635 : Cond.fieldLink RX6 155 "CoughLamps$Pad" "length" "I" ∈ xT := List.mem_of_getElem? (i := 635) (by decide +kernel)
theorem xw_636 : Cond.fieldLink RX6 158 "CoughLamps$History" "size" "I" ∈ xT := List.mem_of_getElem? (i := 636) (by decide +kernel)
theorem xw_637 : Cond.methodLink RX6 140 yX4_walkersInStreet ∈ xT := List.mem_of_getElem? (i := 637) (by decide +kernel)
theorem xw_638 : Cond.instanceMethod yX4_walkersInStreet ∈ xT := List.mem_of_getElem? (i := 638) (by decide +kernel)
theorem xw_639 : Cond.selects RX4 yX4_walkersInStreet yX4_walkersInStreet ∈ xT := List.mem_of_getElem? (i := 639) (by decide +kernel)
theorem xw_640 : Cond.code yX4_walkersInStreet cX4_walkersInStreet 3 (some .int) ∈ xT := List.mem_of_getElem? (i := 640) (by decide +kernel)
theorem xw_641 : Cond.methodLink RX6 144 yX4_lampsThatAre ∈ xT := List.mem_of_getElem? (i := 641) (by decide +kernel)
theorem xw_642 : Cond.methodLink RX6 147 yJ6_bitCount_0f7a4 ∈ xT := List.mem_of_getElem? (i := 642) (by decide +kernel)
theorem xw_643 : Cond.static yJ6_bitCount_0f7a4 ∈ xT := List.mem_of_getElem? (i := 643) (by decide +kernel)
theorem xw_644 : Cond.initialized RJ6 ∈ xT := List.mem_of_getElem? (i := 644) (by decide +kernel)
theorem xw_645 : Cond.code yJ6_bitCount_0f7a4 cJ6_bitCount_0f7a4 1 (some .int) ∈ xT := List.mem_of_getElem? (i := 645) (by decide +kernel)
theorem xw_646 : Cond.constant RJ6 265 (1431655765) ∈ xT := List.mem_of_getElem? (i := 646) (by decide +kernel)
theorem xw_647 : Cond.constant RJ6 266 (858993459) ∈ xT := List.mem_of_getElem? (i := 647) (by decide +kernel)
theorem xw_648 : Cond.constant RJ6 267 (252645135) ∈ xT := List.mem_of_getElem? (i := 648) (by decide +kernel)
theorem xw_649 : Cond.methodLink RX6 152 yX4_total ∈ xT := List.mem_of_getElem? (i := 649) (by decide +kernel)
theorem xw_650 : Cond.instanceMethod yX4_total ∈ xT := List.mem_of_getElem? (i := 650) (by decide +kernel)
theorem xw_651 : Cond.selects RX4 yX4_total yX4_total ∈ xT := List.mem_of_getElem? (i := 651) (by decide +kernel)
theorem xw_652 : Cond.code yX4_total cX4_total 2 (some .int) ∈ xT := List.mem_of_getElem? (i := 652) (by decide +kernel)
theorem xw_653 : Cond.methodLink RX4 228 yX4_darkTicks ∈ xT := List.mem_of_getElem? (i := 653) (by decide +kernel)
theorem xw_654 : Cond.instanceMethod yX4_darkTicks ∈ xT := List.mem_of_getElem? (i := 654) (by decide +kernel)
theorem xw_655 : Cond.selects RX4 yX4_darkTicks yX4_darkTicks ∈ xT := List.mem_of_getElem? (i := 655) (by decide +kernel)
theorem xw_656 : Cond.code yX4_darkTicks cX4_darkTicks 3 (some .int) ∈ xT := List.mem_of_getElem? (i := 656) (by decide +kernel)
theorem xw_657 : Cond.methodLink RX4 232 yX4_lightUnits ∈ xT := List.mem_of_getElem? (i := 657) (by decide +kernel)
theorem xw_658 : Cond.instanceMethod yX4_lightUnits ∈ xT := List.mem_of_getElem? (i := 658) (by decide +kernel)
theorem xw_659 : Cond.selects RX4 yX4_lightUnits yX4_lightUnits ∈ xT := List.mem_of_getElem? (i := 659) (by decide +kernel)
theorem xw_660 : Cond.code yX4_lightUnits cX4_lightUnits 3 (some .int) ∈ xT := List.mem_of_getElem? (i := 660) (by decide +kernel)
theorem xw_661 : Cond.fieldLink RX4 241 "CoughLamps$Lamp" "light" "I" ∈ xT := List.mem_of_getElem? (i := 661) (by decide +kernel)
theorem xw_662 : Cond.methodLink RX4 235 yX4_disturbedTicks ∈ xT := List.mem_of_getElem? (i := 662) (by decide +kernel)
theorem xw_663 : Cond.instanceMethod yX4_disturbedTicks ∈ xT := List.mem_of_getElem? (i := 663) (by decide +kernel)
theorem xw_664 : Cond.selects RX4 yX4_disturbedTicks yX4_disturbedTicks ∈ xT := List.mem_of_getElem? (i := 664) (by decide +kernel)
theorem xw_665 : Cond.code yX4_disturbedTicks cX4_disturbedTicks 3 (some .int) ∈ xT := List.mem_of_getElem? (i := 665) (by decide +kernel)
theorem xw_666 : Cond.methodLink RX4 238 yX4_coughsSoFar ∈ xT := List.mem_of_getElem? (i := 666) (by decide +kernel)
theorem xw_667 : Cond.instanceMethod yX4_coughsSoFar ∈ xT := List.mem_of_getElem? (i := 667) (by decide +kernel)
theorem xw_668 : Cond.selects RX4 yX4_coughsSoFar yX4_coughsSoFar ∈ xT := List.mem_of_getElem? (i := 668) (by decide +kernel)
theorem xw_669 : Cond.code yX4_coughsSoFar cX4_coughsSoFar 3 (some .int) ∈ xT := List.mem_of_getElem? (i := 669) (by decide +kernel)
theorem xw_670 : Cond.methodLink RL 71 yX7_count ∈ xT := List.mem_of_getElem? (i := 670) (by decide +kernel)
theorem xw_671 : Cond.instanceMethod yX7_count ∈ xT := List.mem_of_getElem? (i := 671) (by decide +kernel)
theorem xw_672 : Cond.selects RX7 yX7_count yX7_count ∈ xT := List.mem_of_getElem? (i := 672) (by decide +kernel)
theorem xw_673 : Cond.code yX7_count cX7_count 2 (some .int) ∈ xT := List.mem_of_getElem? (i := 673) (by decide +kernel)
theorem xw_674 : Cond.fieldLink RX7 196 "CoughLampsModel" "padMany" "I" ∈ xT := List.mem_of_getElem? (i := 674) (by decide +kernel)
theorem xw_675 : Cond.methodLink RX7 180 yX7_walkersInStreet ∈ xT := List.mem_of_getElem? (i := 675) (by decide +kernel)
theorem xw_676 : Cond.instanceMethod yX7_walkersInStreet ∈ xT := List.mem_of_getElem? (i := 676) (by decide +kernel)
theorem xw_677 : Cond.selects RX7 yX7_walkersInStreet yX7_walkersInStreet ∈ xT := List.mem_of_getElem? (i := 677) (by decide +kernel)
theorem xw_678 : Cond.code yX7_walkersInStreet cX7_walkersInStreet 3 (some .int) ∈ xT := List.mem_of_getElem? (i := 678) (by decide +kernel)
theorem xw_679 : Cond.methodLink RX7 184 yX7_lampsThat ∈ xT := List.mem_of_getElem? (i := 679) (by decide +kernel)
theorem xw_680 : Cond.instanceMethod yX7_lampsThat ∈ xT := List.mem_of_getElem? (i := 680) (by decide +kernel)
theorem xw_681 : Cond.selects RX7 yX7_lampsThat yX7_lampsThat ∈ xT := List.mem_of_getElem? (i := 681) (by decide +kernel)
theorem xw_682 : Cond.code yX7_lampsThat cX7_lampsThat 4 (some .int) ∈ xT := List.mem_of_getElem? (i := 682) (by decide +kernel)
theorem xw_683 : Cond.methodLink RX7 187 yX7_sumL ∈ xT := List.mem_of_getElem? (i := 683) (by decide +kernel)
theorem xw_684 : Cond.instanceMethod yX7_sumL ∈ xT := List.mem_of_getElem? (i := 684) (by decide +kernel)
theorem xw_685 : Cond.selects RX7 yX7_sumL yX7_sumL ∈ xT := List.mem_of_getElem? (i := 685) (by decide +kernel)
theorem xw_686 : Cond.code yX7_sumL cX7_sumL 4 (some .int) ∈ xT := List.mem_of_getElem? (i := 686) (by decide +kernel)
theorem xw_687 : Cond.methodLink RX7 190 yX7_darkTicks ∈ xT := List.mem_of_getElem? (i := 687) (by decide +kernel)
theorem xw_688 : Cond.instanceMethod yX7_darkTicks ∈ xT := List.mem_of_getElem? (i := 688) (by decide +kernel)
theorem xw_689 : Cond.selects RX7 yX7_darkTicks yX7_darkTicks ∈ xT := List.mem_of_getElem? (i := 689) (by decide +kernel)
theorem xw_690 : Cond.code yX7_darkTicks cX7_darkTicks 3 (some .int) ∈ xT := List.mem_of_getElem? (i := 690) (by decide +kernel)
theorem xw_691 : Cond.methodLink RX7 193 yX7_disturbedTicks ∈ xT := List.mem_of_getElem? (i := 691) (by decide +kernel)
theorem xw_692 : Cond.instanceMethod yX7_disturbedTicks ∈ xT := List.mem_of_getElem? (i := 692) (by decide +kernel)
theorem xw_693 : Cond.selects RX7 yX7_disturbedTicks yX7_disturbedTicks ∈ xT := List.mem_of_getElem? (i := 693) (by decide +kernel)
theorem xw_694 : Cond.code yX7_disturbedTicks cX7_disturbedTicks 3 (some .int) ∈ xT := List.mem_of_getElem? (i := 694) (by decide +kernel)
theorem xw_695 : Cond.methodLink RL 72 yX6_homeIn ∈ xT := List.mem_of_getElem? (i := 695) (by decide +kernel)
theorem xw_696 : Cond.instanceMethod yX6_homeIn ∈ xT := List.mem_of_getElem? (i := 696) (by decide +kernel)
theorem xw_697 : Cond.selects RX6 yX6_homeIn yX6_homeIn ∈ xT := List.mem_of_getElem? (i := 697) (by decide +kernel)
theorem xw_698 : Cond.code yX6_homeIn cX6_homeIn 4 (some .int) ∈ xT := List.mem_of_getElem? (i := 698) (by decide +kernel)
theorem xw_699 : Cond.fieldLink RX6 167 "CoughLamps$Walker" "home" "Z" ∈ xT := List.mem_of_getElem? (i := 699) (by decide +kernel)
theorem xw_700 : Cond.methodLink RX6 161 yX5_copyFrom ∈ xT := List.mem_of_getElem? (i := 700) (by decide +kernel)
theorem xw_701 : Cond.methodLink RX6 171 yX5_go ∈ xT := List.mem_of_getElem? (i := 701) (by decide +kernel)
theorem xw_702 : Cond.methodLink RL 75 yX7_homeIn ∈ xT := List.mem_of_getElem? (i := 702) (by decide +kernel)
theorem xw_703 : Cond.instanceMethod yX7_homeIn ∈ xT := List.mem_of_getElem? (i := 703) (by decide +kernel)
theorem xw_704 : Cond.selects RX7 yX7_homeIn yX7_homeIn ∈ xT := List.mem_of_getElem? (i := 704) (by decide +kernel)
theorem xw_705 : Cond.code yX7_homeIn cX7_homeIn 3 (some .int) ∈ xT := List.mem_of_getElem? (i := 705) (by decide +kernel)
theorem xw_706 : Cond.methodLink RX7 199 yX7_layAside ∈ xT := List.mem_of_getElem? (i := 706) (by decide +kernel)
theorem xw_707 : Cond.instanceMethod yX7_layAside ∈ xT := List.mem_of_getElem? (i := 707) (by decide +kernel)
theorem xw_708 : Cond.selects RX7 yX7_layAside yX7_layAside ∈ xT := List.mem_of_getElem? (i := 708) (by decide +kernel)
theorem xw_709 : Cond.code yX7_layAside cX7_layAside 2 none ∈ xT := List.mem_of_getElem? (i := 709) (by decide +kernel)
theorem xw_710 : Cond.methodLink RX7 202 yX7_layBack ∈ xT := List.mem_of_getElem? (i := 710) (by decide +kernel)
theorem xw_711 : Cond.instanceMethod yX7_layBack ∈ xT := List.mem_of_getElem? (i := 711) (by decide +kernel)
theorem xw_712 : Cond.selects RX7 yX7_layBack yX7_layBack ∈ xT := List.mem_of_getElem? (i := 712) (by decide +kernel)
theorem xw_713 : Cond.code yX7_layBack cX7_layBack 2 none ∈ xT := List.mem_of_getElem? (i := 713) (by decide +kernel)
theorem xw_714 : Cond.methodLink RL 76 yX6_brings ∈ xT := List.mem_of_getElem? (i := 714) (by decide +kernel)
theorem xw_715 : Cond.instanceMethod yX6_brings ∈ xT := List.mem_of_getElem? (i := 715) (by decide +kernel)
theorem xw_716 : Cond.selects RX6 yX6_brings yX6_brings ∈ xT := List.mem_of_getElem? (i := 716) (by decide +kernel)
theorem xw_717 : Cond.code yX6_brings cX6_brings 3 (some .int) ∈ xT := List.mem_of_getElem? (i := 717) (by decide +kernel)
theorem xw_718 : Cond.methodLink RX6 174 yX6_isTicks ∈ xT := List.mem_of_getElem? (i := 718) (by decide +kernel)
theorem xw_719 : Cond.methodLink RX6 177 yX4_become ∈ xT := List.mem_of_getElem? (i := 719) (by decide +kernel)
theorem xw_720 : Cond.methodLink RX6 180 yX6_broughtByTrial ∈ xT := List.mem_of_getElem? (i := 720) (by decide +kernel)
theorem xw_721 : Cond.instanceMethod yX6_broughtByTrial ∈ xT := List.mem_of_getElem? (i := 721) (by decide +kernel)
theorem xw_722 : Cond.selects RX6 yX6_broughtByTrial yX6_broughtByTrial ∈ xT := List.mem_of_getElem? (i := 722) (by decide +kernel)
theorem xw_723 : Cond.code yX6_broughtByTrial cX6_broughtByTrial 2 (some .int) ∈ xT := List.mem_of_getElem? (i := 723) (by decide +kernel)
theorem xw_724 : Cond.methodLink RL 79 yX7_brings ∈ xT := List.mem_of_getElem? (i := 724) (by decide +kernel)
theorem xw_725 : Cond.instanceMethod yX7_brings ∈ xT := List.mem_of_getElem? (i := 725) (by decide +kernel)
theorem xw_726 : Cond.selects RX7 yX7_brings yX7_brings ∈ xT := List.mem_of_getElem? (i := 726) (by decide +kernel)
theorem xw_727 : Cond.code yX7_brings cX7_brings 3 (some .int) ∈ xT := List.mem_of_getElem? (i := 727) (by decide +kernel)
theorem xw_728 : Cond.methodLink RX7 208 yX7_brought ∈ xT := List.mem_of_getElem? (i := 728) (by decide +kernel)
theorem xw_729 : Cond.instanceMethod yX7_brought ∈ xT := List.mem_of_getElem? (i := 729) (by decide +kernel)
theorem xw_730 : Cond.selects RX7 yX7_brought yX7_brought ∈ xT := List.mem_of_getElem? (i := 730) (by decide +kernel)
theorem xw_731 : Cond.code yX7_brought cX7_brought 5 (some .int) ∈ xT := List.mem_of_getElem? (i := 731) (by decide +kernel)
theorem xw_732 : Cond.methodLink RX7 205 yX7_counted ∈ xT := List.mem_of_getElem? (i := 732) (by decide +kernel)
theorem xw_733 : Cond.instanceMethod yX7_counted ∈ xT := List.mem_of_getElem? (i := 733) (by decide +kernel)
theorem xw_734 : Cond.selects RX7 yX7_counted yX7_counted ∈ xT := List.mem_of_getElem? (i := 734) (by decide +kernel)
theorem xw_735 : Cond.code yX7_counted cX7_counted 2 (some .int) ∈ xT := List.mem_of_getElem? (i := 735) (by decide +kernel)
theorem xw_736 : Cond.methodLink RL 80 yX6_bestReach ∈ xT := List.mem_of_getElem? (i := 736) (by decide +kernel)
theorem xw_737 : Cond.instanceMethod yX6_bestReach ∈ xT := List.mem_of_getElem? (i := 737) (by decide +kernel)
theorem xw_738 : Cond.selects RX6 yX6_bestReach yX6_bestReach ∈ xT := List.mem_of_getElem? (i := 738) (by decide +kernel)
theorem xw_739 : Cond.code yX6_bestReach cX6_bestReach 9 (some .int) ∈ xT := List.mem_of_getElem? (i := 739) (by decide +kernel)
theorem xw_740 : Cond.fieldLink RX6 183 "CoughLamps" "LEAST_VALUES" "[I" ∈ xT := List.mem_of_getElem? (i := 740) (by decide +kernel)
theorem xw_741 : Cond.fieldLink RX6 186 "CoughLamps" "MOST_VALUES" "[I" ∈ xT := List.mem_of_getElem? (i := 741) (by decide +kernel)
theorem xw_742 : Cond.methodLink RX6 189 yX4_hasLampsApart ∈ xT := List.mem_of_getElem? (i := 742) (by decide +kernel)
theorem xw_743 : Cond.instanceMethod yX4_hasLampsApart ∈ xT := List.mem_of_getElem? (i := 743) (by decide +kernel)
theorem xw_744 : Cond.selects RX4 yX4_hasLampsApart yX4_hasLampsApart ∈ xT := List.mem_of_getElem? (i := 744) (by decide +kernel)
theorem xw_745 : Cond.code yX4_hasLampsApart cX4_hasLampsApart 4 (some .boolean) ∈ xT := List.mem_of_getElem? (i := 745) (by decide +kernel)
theorem xw_746 : Cond.methodLink RL 83 yX7_bestReach ∈ xT := List.mem_of_getElem? (i := 746) (by decide +kernel)
theorem xw_747 : Cond.instanceMethod yX7_bestReach ∈ xT := List.mem_of_getElem? (i := 747) (by decide +kernel)
theorem xw_748 : Cond.selects RX7 yX7_bestReach yX7_bestReach ∈ xT := List.mem_of_getElem? (i := 748) (by decide +kernel)
theorem xw_749 : Cond.code yX7_bestReach cX7_bestReach 9 (some .int) ∈ xT := List.mem_of_getElem? (i := 749) (by decide +kernel)
theorem xw_750 : Cond.methodLink RL 84 yX6_needless ∈ xT := List.mem_of_getElem? (i := 750) (by decide +kernel)
theorem xw_751 : Cond.instanceMethod yX6_needless ∈ xT := List.mem_of_getElem? (i := 751) (by decide +kernel)
theorem xw_752 : Cond.selects RX6 yX6_needless yX6_needless ∈ xT := List.mem_of_getElem? (i := 752) (by decide +kernel)
theorem xw_753 : Cond.code yX6_needless cX6_needless 4 (some .int) ∈ xT := List.mem_of_getElem? (i := 753) (by decide +kernel)
theorem xw_754 : Cond.methodLink RL 88 yX7_needless ∈ xT := List.mem_of_getElem? (i := 754) (by decide +kernel)
theorem xw_755 : Cond.instanceMethod yX7_needless ∈ xT := List.mem_of_getElem? (i := 755) (by decide +kernel)
theorem xw_756 : Cond.selects RX7 yX7_needless yX7_needless ∈ xT := List.mem_of_getElem? (i := 756) (by decide +kernel)
theorem xw_757 : Cond.code yX7_needless cX7_needless 4 (some .int) ∈ xT := List.mem_of_getElem? (i := 757) (by decide +kernel)
theorem xw_758 : Cond.methodLink RX7 211 yX7_darkWithout ∈ xT := List.mem_of_getElem? (i := 758) (by decide +kernel)
theorem xw_759 : Cond.instanceMethod yX7_darkWithout ∈ xT := List.mem_of_getElem? (i := 759) (by decide +kernel)
theorem xw_760 : Cond.selects RX7 yX7_darkWithout yX7_darkWithout ∈ xT := List.mem_of_getElem? (i := 760) (by decide +kernel)
theorem xw_761 : Cond.code yX7_darkWithout cX7_darkWithout 4 (some .int) ∈ xT := List.mem_of_getElem? (i := 761) (by decide +kernel)
theorem xw_762 : Cond.methodLink RL 91 yX6_put ∈ xT := List.mem_of_getElem? (i := 762) (by decide +kernel)
theorem xw_763 : Cond.instanceMethod yX6_put ∈ xT := List.mem_of_getElem? (i := 763) (by decide +kernel)
theorem xw_764 : Cond.selects RX6 yX6_put yX6_put ∈ xT := List.mem_of_getElem? (i := 764) (by decide +kernel)
theorem xw_765 : Cond.code yX6_put cX6_put 5 (some .int) ∈ xT := List.mem_of_getElem? (i := 765) (by decide +kernel)
theorem xw_766 : Cond.constantLong RX6 196 (255) ∈ xT := List.mem_of_getElem? (i := 766) (by decide +kernel)
theorem xw_767 : Cond.methodLink RX6 192 yX6_countSigns ∈ xT := List.mem_of_getElem? (i := 767) (by decide +kernel)
theorem xw_768 : Cond.static yX6_countSigns ∈ xT := List.mem_of_getElem? (i := 768) (by decide +kernel)
theorem xw_769 : Cond.code yX6_countSigns cX6_countSigns 6 (some .int) ∈ xT := List.mem_of_getElem? (i := 769) (by decide +kernel)
theorem xw_770 : Cond.methodLink RX6 198 yX3_append ∈ xT := List.mem_of_getElem? (i := 770) (by decide +kernel)
theorem xw_771 : Cond.instanceMethod yX3_append ∈ xT := List.mem_of_getElem? (i := 771) (by decide +kernel)
theorem xw_772 : Cond.selects RX3 yX3_append yX3_append ∈ xT := List.mem_of_getElem? (i := 772) (by decide +kernel)
theorem xw_773 : Cond.code yX3_append cX3_append 2 none ∈ xT := List.mem_of_getElem? (i := 773) (by decide +kernel)
theorem xw_774 : Cond.fieldLink RX3 19 "CoughLamps$Pad" "length" "I" ∈ xT := List.mem_of_getElem? (i := 774) (by decide +kernel)
theorem xw_775 : Cond.methodLink RL 95 yX7_put ∈ xT := List.mem_of_getElem? (i := 775) (by decide +kernel)
theorem xw_776 : Cond.instanceMethod yX7_put ∈ xT := List.mem_of_getElem? (i := 776) (by decide +kernel)
theorem xw_777 : Cond.selects RX7 yX7_put yX7_put ∈ xT := List.mem_of_getElem? (i := 777) (by decide +kernel)
theorem xw_778 : Cond.code yX7_put cX7_put 7 (some .int) ∈ xT := List.mem_of_getElem? (i := 778) (by decide +kernel)
theorem xw_779 : Cond.constantLong RX7 214 (255) ∈ xT := List.mem_of_getElem? (i := 779) (by decide +kernel)
theorem xw_780 : Cond.methodLink RL 96 yX6_wipe ∈ xT := List.mem_of_getElem? (i := 780) (by decide +kernel)
theorem xw_781 : Cond.instanceMethod yX6_wipe ∈ xT := List.mem_of_getElem? (i := 781) (by decide +kernel)
theorem xw_782 : Cond.selects RX6 yX6_wipe yX6_wipe ∈ xT := List.mem_of_getElem? (i := 782) (by decide +kernel)
theorem xw_783 : Cond.code yX6_wipe cX6_wipe 2 (some .int) ∈ xT := List.mem_of_getElem? (i := 783) (by decide +kernel)
theorem xw_784 : Cond.methodLink RX6 202 yX3_clear ∈ xT := List.mem_of_getElem? (i := 784) (by decide +kernel)
theorem xw_785 : Cond.instanceMethod yX3_clear ∈ xT := List.mem_of_getElem? (i := 785) (by decide +kernel)
theorem xw_786 : Cond.selects RX3 yX3_clear yX3_clear ∈ xT := List.mem_of_getElem? (i := 786) (by decide +kernel)
theorem xw_787 : Cond.code yX3_clear cX3_clear 1 none ∈ xT := List.mem_of_getElem? (i := 787) (by decide +kernel)
theorem xw_788 : Cond.methodLink RL 99 yX7_wipe ∈ xT := List.mem_of_getElem? (i := 788) (by decide +kernel)
theorem xw_789 : Cond.instanceMethod yX7_wipe ∈ xT := List.mem_of_getElem? (i := 789) (by decide +kernel)
theorem xw_790 : Cond.selects RX7 yX7_wipe yX7_wipe ∈ xT := List.mem_of_getElem? (i := 790) (by decide +kernel)
theorem xw_791 : Cond.code yX7_wipe cX7_wipe 2 (some .int) ∈ xT := List.mem_of_getElem? (i := 791) (by decide +kernel)
theorem xw_792 : Cond.methodLink RL 100 yX6_fault ∈ xT := List.mem_of_getElem? (i := 792) (by decide +kernel)
theorem xw_793 : Cond.instanceMethod yX6_fault ∈ xT := List.mem_of_getElem? (i := 793) (by decide +kernel)
theorem xw_794 : Cond.selects RX6 yX6_fault yX6_fault ∈ xT := List.mem_of_getElem? (i := 794) (by decide +kernel)
theorem xw_795 : Cond.code yX6_fault cX6_fault 1 (some .int) ∈ xT := List.mem_of_getElem? (i := 795) (by decide +kernel)
theorem xw_796 : Cond.methodLink RX6 205 yX3_firstFault ∈ xT := List.mem_of_getElem? (i := 796) (by decide +kernel)
theorem xw_797 : Cond.instanceMethod yX3_firstFault ∈ xT := List.mem_of_getElem? (i := 797) (by decide +kernel)
theorem xw_798 : Cond.selects RX3 yX3_firstFault yX3_firstFault ∈ xT := List.mem_of_getElem? (i := 798) (by decide +kernel)
theorem xw_799 : Cond.code yX3_firstFault cX3_firstFault 2 (some .int) ∈ xT := List.mem_of_getElem? (i := 799) (by decide +kernel)
theorem xw_800 : Cond.fieldLink RX3 23 "CoughLamps$Pad" "at" "I" ∈ xT := List.mem_of_getElem? (i := 800) (by decide +kernel)
theorem xw_801 : Cond.methodLink RX3 26 yX3_rewind ∈ xT := List.mem_of_getElem? (i := 801) (by decide +kernel)
theorem xw_802 : Cond.instanceMethod yX3_rewind ∈ xT := List.mem_of_getElem? (i := 802) (by decide +kernel)
theorem xw_803 : Cond.selects RX3 yX3_rewind yX3_rewind ∈ xT := List.mem_of_getElem? (i := 803) (by decide +kernel)
theorem xw_804 : Cond.code yX3_rewind cX3_rewind 1 none ∈ xT := List.mem_of_getElem? (i := 804) (by decide +kernel)
theorem xw_805 : Cond.methodLink RX3 29 yX3_readOrder ∈ xT := List.mem_of_getElem? (i := 805) (by decide +kernel)
theorem xw_806 : Cond.instanceMethod yX3_readOrder ∈ xT := List.mem_of_getElem? (i := 806) (by decide +kernel)
theorem xw_807 : Cond.selects RX3 yX3_readOrder yX3_readOrder ∈ xT := List.mem_of_getElem? (i := 807) (by decide +kernel)
theorem xw_808 : Cond.code yX3_readOrder cX3_readOrder 1 (some .boolean) ∈ xT := List.mem_of_getElem? (i := 808) (by decide +kernel)
theorem xw_809 : Cond.fieldLink RX3 37 "CoughLamps$Pad" "numberCount" "I" ∈ xT := List.mem_of_getElem? (i := 809) (by decide +kernel)
theorem xw_810 : Cond.fieldLink RX3 44 "CoughLamps$Pad" "kind" "I" ∈ xT := List.mem_of_getElem? (i := 810) (by decide +kernel)
theorem xw_811 : Cond.methodLink RX3 40 yX3_sign ∈ xT := List.mem_of_getElem? (i := 811) (by decide +kernel)
theorem xw_812 : Cond.instanceMethod yX3_sign ∈ xT := List.mem_of_getElem? (i := 812) (by decide +kernel)
theorem xw_813 : Cond.selects RX3 yX3_sign yX3_sign ∈ xT := List.mem_of_getElem? (i := 813) (by decide +kernel)
theorem xw_814 : Cond.code yX3_sign cX3_sign 1 (some .char) ∈ xT := List.mem_of_getElem? (i := 814) (by decide +kernel)
theorem xw_815 : Cond.methodLink RX3 33 yX3_readSign ∈ xT := List.mem_of_getElem? (i := 815) (by decide +kernel)
theorem xw_816 : Cond.instanceMethod yX3_readSign ∈ xT := List.mem_of_getElem? (i := 816) (by decide +kernel)
theorem xw_817 : Cond.selects RX3 yX3_readSign yX3_readSign ∈ xT := List.mem_of_getElem? (i := 817) (by decide +kernel)
theorem xw_818 : Cond.code yX3_readSign cX3_readSign 2 (some .boolean) ∈ xT := List.mem_of_getElem? (i := 818) (by decide +kernel)
theorem xw_819 : Cond.methodLink RX3 47 yX3_readNumber ∈ xT := List.mem_of_getElem? (i := 819) (by decide +kernel)
theorem xw_820 : Cond.instanceMethod yX3_readNumber ∈ xT := List.mem_of_getElem? (i := 820) (by decide +kernel)
theorem xw_821 : Cond.selects RX3 yX3_readNumber yX3_readNumber ∈ xT := List.mem_of_getElem? (i := 821) (by decide +kernel)
theorem xw_822 : Cond.code yX3_readNumber cX3_readNumber 4 (some .boolean) ∈ xT := List.mem_of_getElem? (i := 822) (by decide +kernel)
theorem xw_823 : Cond.methodLink RX3 60 yX3_isDigit ∈ xT := List.mem_of_getElem? (i := 823) (by decide +kernel)
theorem xw_824 : Cond.static yX3_isDigit ∈ xT := List.mem_of_getElem? (i := 824) (by decide +kernel)
theorem xw_825 : Cond.code yX3_isDigit cX3_isDigit 1 (some .boolean) ∈ xT := List.mem_of_getElem? (i := 825) (by decide +kernel)
theorem xw_826 : Cond.methodLink RX3 56 yX3_keepNumber ∈ xT := List.mem_of_getElem? (i := 826) (by decide +kernel)
theorem xw_827 : Cond.instanceMethod yX3_keepNumber ∈ xT := List.mem_of_getElem? (i := 827) (by decide +kernel)
theorem xw_828 : Cond.selects RX3 yX3_keepNumber yX3_keepNumber ∈ xT := List.mem_of_getElem? (i := 828) (by decide +kernel)
theorem xw_829 : Cond.code yX3_keepNumber cX3_keepNumber 2 none ∈ xT := List.mem_of_getElem? (i := 829) (by decide +kernel)
theorem xw_830 : Cond.methodLink RX3 50 yX3_readGoals ∈ xT := List.mem_of_getElem? (i := 830) (by decide +kernel)
theorem xw_831 : Cond.instanceMethod yX3_readGoals ∈ xT := List.mem_of_getElem? (i := 831) (by decide +kernel)
theorem xw_832 : Cond.selects RX3 yX3_readGoals yX3_readGoals ∈ xT := List.mem_of_getElem? (i := 832) (by decide +kernel)
theorem xw_833 : Cond.code yX3_readGoals cX3_readGoals 2 (some .boolean) ∈ xT := List.mem_of_getElem? (i := 833) (by decide +kernel)
theorem xw_834 : Cond.methodLink RX3 53 yX3_readMode ∈ xT := List.mem_of_getElem? (i := 834) (by decide +kernel)
theorem xw_835 : Cond.instanceMethod yX3_readMode ∈ xT := List.mem_of_getElem? (i := 835) (by decide +kernel)
theorem xw_836 : Cond.selects RX3 yX3_readMode yX3_readMode ∈ xT := List.mem_of_getElem? (i := 836) (by decide +kernel)
theorem xw_837 : Cond.code yX3_readMode cX3_readMode 2 (some .boolean) ∈ xT := List.mem_of_getElem? (i := 837) (by decide +kernel)
theorem xw_838 : Cond.methodLink RL 103 yX7_fault ∈ xT := List.mem_of_getElem? (i := 838) (by decide +kernel)
theorem xw_839 : Cond.instanceMethod yX7_fault ∈ xT := List.mem_of_getElem? (i := 839) (by decide +kernel)
theorem xw_840 : Cond.selects RX7 yX7_fault yX7_fault ∈ xT := List.mem_of_getElem? (i := 840) (by decide +kernel)
theorem xw_841 : Cond.code yX7_fault cX7_fault 1 (some .int) ∈ xT := List.mem_of_getElem? (i := 841) (by decide +kernel)
theorem xw_842 : Cond.fieldLink RX7 216 "CoughLampsModel" "spot" "I" ∈ xT := List.mem_of_getElem? (i := 842) (by decide +kernel)
theorem xw_843 : Cond.fieldLink RX7 219 "CoughLampsModel" "isWrong" "Z" ∈ xT := List.mem_of_getElem? (i := 843) (by decide +kernel)
theorem xw_844 : Cond.fieldLink RX7 238 "CoughLampsModel" "orders" "I" ∈ xT := List.mem_of_getElem? (i := 844) (by decide +kernel)
theorem xw_845 : Cond.fieldLink RX7 226 "CoughLampsModel" "read" "I" ∈ xT := List.mem_of_getElem? (i := 845) (by decide +kernel)
theorem xw_846 : Cond.methodLink RX7 247 yX7_takeOrder ∈ xT := List.mem_of_getElem? (i := 846) (by decide +kernel)
theorem xw_847 : Cond.instanceMethod yX7_takeOrder ∈ xT := List.mem_of_getElem? (i := 847) (by decide +kernel)
theorem xw_848 : Cond.selects RX7 yX7_takeOrder yX7_takeOrder ∈ xT := List.mem_of_getElem? (i := 848) (by decide +kernel)
theorem xw_849 : Cond.code yX7_takeOrder cX7_takeOrder 2 none ∈ xT := List.mem_of_getElem? (i := 849) (by decide +kernel)
theorem xw_850 : Cond.methodLink RX7 223 yX7_next ∈ xT := List.mem_of_getElem? (i := 850) (by decide +kernel)
theorem xw_851 : Cond.instanceMethod yX7_next ∈ xT := List.mem_of_getElem? (i := 851) (by decide +kernel)
theorem xw_852 : Cond.selects RX7 yX7_next yX7_next ∈ xT := List.mem_of_getElem? (i := 852) (by decide +kernel)
theorem xw_853 : Cond.code yX7_next cX7_next 1 (some .int) ∈ xT := List.mem_of_getElem? (i := 853) (by decide +kernel)
theorem xw_854 : Cond.methodLink RX7 241 yX7_takeWalker ∈ xT := List.mem_of_getElem? (i := 854) (by decide +kernel)
theorem xw_855 : Cond.instanceMethod yX7_takeWalker ∈ xT := List.mem_of_getElem? (i := 855) (by decide +kernel)
theorem xw_856 : Cond.selects RX7 yX7_takeWalker yX7_takeWalker ∈ xT := List.mem_of_getElem? (i := 856) (by decide +kernel)
theorem xw_857 : Cond.code yX7_takeWalker cX7_takeWalker 1 none ∈ xT := List.mem_of_getElem? (i := 857) (by decide +kernel)
theorem xw_858 : Cond.methodLink RX7 232 yX7_takeNumber ∈ xT := List.mem_of_getElem? (i := 858) (by decide +kernel)
theorem xw_859 : Cond.instanceMethod yX7_takeNumber ∈ xT := List.mem_of_getElem? (i := 859) (by decide +kernel)
theorem xw_860 : Cond.selects RX7 yX7_takeNumber yX7_takeNumber ∈ xT := List.mem_of_getElem? (i := 860) (by decide +kernel)
theorem xw_861 : Cond.code yX7_takeNumber cX7_takeNumber 2 none ∈ xT := List.mem_of_getElem? (i := 861) (by decide +kernel)
theorem xw_862 : Cond.methodLink RX7 229 yX7_enter ∈ xT := List.mem_of_getElem? (i := 862) (by decide +kernel)
theorem xw_863 : Cond.instanceMethod yX7_enter ∈ xT := List.mem_of_getElem? (i := 863) (by decide +kernel)
theorem xw_864 : Cond.selects RX7 yX7_enter yX7_enter ∈ xT := List.mem_of_getElem? (i := 864) (by decide +kernel)
theorem xw_865 : Cond.code yX7_enter cX7_enter 2 none ∈ xT := List.mem_of_getElem? (i := 865) (by decide +kernel)
theorem xw_866 : Cond.methodLink RX7 235 yX7_takeSign ∈ xT := List.mem_of_getElem? (i := 866) (by decide +kernel)
theorem xw_867 : Cond.instanceMethod yX7_takeSign ∈ xT := List.mem_of_getElem? (i := 867) (by decide +kernel)
theorem xw_868 : Cond.selects RX7 yX7_takeSign yX7_takeSign ∈ xT := List.mem_of_getElem? (i := 868) (by decide +kernel)
theorem xw_869 : Cond.code yX7_takeSign cX7_takeSign 2 none ∈ xT := List.mem_of_getElem? (i := 869) (by decide +kernel)
theorem xw_870 : Cond.methodLink RX7 244 yX7_takeMend ∈ xT := List.mem_of_getElem? (i := 870) (by decide +kernel)
theorem xw_871 : Cond.instanceMethod yX7_takeMend ∈ xT := List.mem_of_getElem? (i := 871) (by decide +kernel)
theorem xw_872 : Cond.selects RX7 yX7_takeMend yX7_takeMend ∈ xT := List.mem_of_getElem? (i := 872) (by decide +kernel)
theorem xw_873 : Cond.code yX7_takeMend cX7_takeMend 1 none ∈ xT := List.mem_of_getElem? (i := 873) (by decide +kernel)
theorem xw_874 : Cond.methodLink RL 104 yX6_carryOut ∈ xT := List.mem_of_getElem? (i := 874) (by decide +kernel)
theorem xw_875 : Cond.instanceMethod yX6_carryOut ∈ xT := List.mem_of_getElem? (i := 875) (by decide +kernel)
theorem xw_876 : Cond.selects RX6 yX6_carryOut yX6_carryOut ∈ xT := List.mem_of_getElem? (i := 876) (by decide +kernel)
theorem xw_877 : Cond.code yX6_carryOut cX6_carryOut 2 (some .int) ∈ xT := List.mem_of_getElem? (i := 877) (by decide +kernel)
theorem xw_878 : Cond.methodLink RX6 208 yX3_rewind ∈ xT := List.mem_of_getElem? (i := 878) (by decide +kernel)
theorem xw_879 : Cond.methodLink RX6 211 yX3_readNextOrder ∈ xT := List.mem_of_getElem? (i := 879) (by decide +kernel)
theorem xw_880 : Cond.instanceMethod yX3_readNextOrder ∈ xT := List.mem_of_getElem? (i := 880) (by decide +kernel)
theorem xw_881 : Cond.selects RX3 yX3_readNextOrder yX3_readNextOrder ∈ xT := List.mem_of_getElem? (i := 881) (by decide +kernel)
theorem xw_882 : Cond.code yX3_readNextOrder cX3_readNextOrder 1 (some .boolean) ∈ xT := List.mem_of_getElem? (i := 882) (by decide +kernel)
theorem xw_883 : Cond.methodLink RX6 215 yX6_carryOrder ∈ xT := List.mem_of_getElem? (i := 883) (by decide +kernel)
theorem xw_884 : Cond.instanceMethod yX6_carryOrder ∈ xT := List.mem_of_getElem? (i := 884) (by decide +kernel)
theorem xw_885 : Cond.selects RX6 yX6_carryOrder yX6_carryOrder ∈ xT := List.mem_of_getElem? (i := 885) (by decide +kernel)
theorem xw_886 : Cond.code yX6_carryOrder cX6_carryOrder 1 (some .int) ∈ xT := List.mem_of_getElem? (i := 886) (by decide +kernel)
theorem xw_887 : Cond.fieldLink RX6 218 "CoughLamps$Pad" "kind" "I" ∈ xT := List.mem_of_getElem? (i := 887) (by decide +kernel)
theorem xw_888 : Cond.fieldLink RX6 224 "CoughLamps$Pad" "numbers" "[I" ∈ xT := List.mem_of_getElem? (i := 888) (by decide +kernel)
theorem xw_889 : Cond.methodLink RX6 221 yX6_carryWalkerIn ∈ xT := List.mem_of_getElem? (i := 889) (by decide +kernel)
theorem xw_890 : Cond.instanceMethod yX6_carryWalkerIn ∈ xT := List.mem_of_getElem? (i := 890) (by decide +kernel)
theorem xw_891 : Cond.selects RX6 yX6_carryWalkerIn yX6_carryWalkerIn ∈ xT := List.mem_of_getElem? (i := 891) (by decide +kernel)
theorem xw_892 : Cond.code yX6_carryWalkerIn cX6_carryWalkerIn 4 (some .int) ∈ xT := List.mem_of_getElem? (i := 892) (by decide +kernel)
theorem xw_893 : Cond.fieldLink RX6 227 "CoughLamps$Pad" "numberCount" "I" ∈ xT := List.mem_of_getElem? (i := 893) (by decide +kernel)
theorem xw_894 : Cond.methodLink RL 107 yX7_carryOut ∈ xT := List.mem_of_getElem? (i := 894) (by decide +kernel)
theorem xw_895 : Cond.instanceMethod yX7_carryOut ∈ xT := List.mem_of_getElem? (i := 895) (by decide +kernel)
theorem xw_896 : Cond.selects RX7 yX7_carryOut yX7_carryOut ∈ xT := List.mem_of_getElem? (i := 896) (by decide +kernel)
theorem xw_897 : Cond.code yX7_carryOut cX7_carryOut 2 (some .int) ∈ xT := List.mem_of_getElem? (i := 897) (by decide +kernel)
theorem xw_898 : Cond.methodLink RX7 253 yX7_fault ∈ xT := List.mem_of_getElem? (i := 898) (by decide +kernel)
theorem xw_899 : Cond.methodLink RX7 256 yX7_carry ∈ xT := List.mem_of_getElem? (i := 899) (by decide +kernel)
theorem xw_900 : Cond.instanceMethod yX7_carry ∈ xT := List.mem_of_getElem? (i := 900) (by decide +kernel)
theorem xw_901 : Cond.selects RX7 yX7_carry yX7_carry ∈ xT := List.mem_of_getElem? (i := 901) (by decide +kernel)
theorem xw_902 : Cond.code yX7_carry cX7_carry 3 (some .int) ∈ xT := List.mem_of_getElem? (i := 902) (by decide +kernel)
theorem xw_903 : Cond.methodLink RX7 250 yX7_sendWalker ∈ xT := List.mem_of_getElem? (i := 903) (by decide +kernel)
theorem xw_904 : Cond.instanceMethod yX7_sendWalker ∈ xT := List.mem_of_getElem? (i := 904) (by decide +kernel)
theorem xw_905 : Cond.selects RX7 yX7_sendWalker yX7_sendWalker ∈ xT := List.mem_of_getElem? (i := 905) (by decide +kernel)
theorem xw_906 : Cond.code yX7_sendWalker cX7_sendWalker 5 (some .int) ∈ xT := List.mem_of_getElem? (i := 906) (by decide +kernel)
theorem xw_907 : Cond.methodLink RL 108 yX6_undo ∈ xT := List.mem_of_getElem? (i := 907) (by decide +kernel)
theorem xw_908 : Cond.instanceMethod yX6_undo ∈ xT := List.mem_of_getElem? (i := 908) (by decide +kernel)
theorem xw_909 : Cond.selects RX6 yX6_undo yX6_undo ∈ xT := List.mem_of_getElem? (i := 909) (by decide +kernel)
theorem xw_910 : Cond.code yX6_undo cX6_undo 1 (some .int) ∈ xT := List.mem_of_getElem? (i := 910) (by decide +kernel)
theorem xw_911 : Cond.methodLink RX6 230 yX0_takeBack ∈ xT := List.mem_of_getElem? (i := 911) (by decide +kernel)
theorem xw_912 : Cond.instanceMethod yX0_takeBack ∈ xT := List.mem_of_getElem? (i := 912) (by decide +kernel)
theorem xw_913 : Cond.selects RX0 yX0_takeBack yX0_takeBack ∈ xT := List.mem_of_getElem? (i := 913) (by decide +kernel)
theorem xw_914 : Cond.code yX0_takeBack cX0_takeBack 2 (some .int) ∈ xT := List.mem_of_getElem? (i := 914) (by decide +kernel)
theorem xw_915 : Cond.methodLink RL 111 yX7_undo ∈ xT := List.mem_of_getElem? (i := 915) (by decide +kernel)
theorem xw_916 : Cond.instanceMethod yX7_undo ∈ xT := List.mem_of_getElem? (i := 916) (by decide +kernel)
theorem xw_917 : Cond.selects RX7 yX7_undo yX7_undo ∈ xT := List.mem_of_getElem? (i := 917) (by decide +kernel)
theorem xw_918 : Cond.code yX7_undo cX7_undo 3 (some .int) ∈ xT := List.mem_of_getElem? (i := 918) (by decide +kernel)
theorem xw_919 : Cond.methodLink RL 112 yX6_save ∈ xT := List.mem_of_getElem? (i := 919) (by decide +kernel)
theorem xw_920 : Cond.instanceMethod yX6_save ∈ xT := List.mem_of_getElem? (i := 920) (by decide +kernel)
theorem xw_921 : Cond.selects RX6 yX6_save yX6_save ∈ xT := List.mem_of_getElem? (i := 921) (by decide +kernel)
theorem xw_922 : Cond.code yX6_save cX6_save 2 (some .int) ∈ xT := List.mem_of_getElem? (i := 922) (by decide +kernel)
theorem xw_923 : Cond.methodLink RL 115 yX7_save ∈ xT := List.mem_of_getElem? (i := 923) (by decide +kernel)
theorem xw_924 : Cond.instanceMethod yX7_save ∈ xT := List.mem_of_getElem? (i := 924) (by decide +kernel)
theorem xw_925 : Cond.selects RX7 yX7_save yX7_save ∈ xT := List.mem_of_getElem? (i := 925) (by decide +kernel)
theorem xw_926 : Cond.code yX7_save cX7_save 3 (some .int) ∈ xT := List.mem_of_getElem? (i := 926) (by decide +kernel)
theorem xw_927 : Cond.methodLink RL 116 yX6_restore ∈ xT := List.mem_of_getElem? (i := 927) (by decide +kernel)
theorem xw_928 : Cond.instanceMethod yX6_restore ∈ xT := List.mem_of_getElem? (i := 928) (by decide +kernel)
theorem xw_929 : Cond.selects RX6 yX6_restore yX6_restore ∈ xT := List.mem_of_getElem? (i := 929) (by decide +kernel)
theorem xw_930 : Cond.code yX6_restore cX6_restore 2 (some .int) ∈ xT := List.mem_of_getElem? (i := 930) (by decide +kernel)
theorem xw_931 : Cond.methodLink RL 119 yX7_restore ∈ xT := List.mem_of_getElem? (i := 931) (by decide +kernel)
theorem xw_932 : Cond.instanceMethod yX7_restore ∈ xT := List.mem_of_getElem? (i := 932) (by decide +kernel)
theorem xw_933 : Cond.selects RX7 yX7_restore yX7_restore ∈ xT := List.mem_of_getElem? (i := 933) (by decide +kernel)
theorem xw_934 : Cond.code yX7_restore cX7_restore 3 (some .int) ∈ xT := List.mem_of_getElem? (i := 934) (by decide +kernel)
theorem inlX0 : ∀ w ∈ wsX00, w ∈ wsL_law := fun _ h => List.mem_append_left _ (List.mem_append_left _ (List.mem_append_left _ (List.mem_append_left _ (List.mem_append_left _ (List.mem_append_right _ h)))))
theorem inlX1 : ∀ w ∈ wsX10, w ∈ wsL_law := fun _ h => List.mem_append_left _ (List.mem_append_left _ (List.mem_append_right _ h))
theorem inlX2 : ∀ w ∈ wsX20, w ∈ wsL_law := fun _ h => List.mem_append_left _ (List.mem_append_left _ (List.mem_append_left _ (List.mem_append_right _ h)))
theorem inlX3 : ∀ w ∈ wsX30, w ∈ wsL_law := fun _ h => List.mem_append_left _ (List.mem_append_left _ (List.mem_append_left _ (List.mem_append_left _ (List.mem_append_right _ h))))
theorem inlX4 : ∀ w ∈ wsX40, w ∈ wsL_law := fun _ h => List.mem_append_left _ (List.mem_append_left _ (List.mem_append_left _ (List.mem_append_left _ (List.mem_append_left _ (List.mem_append_left _ (List.mem_append_right _ h))))))
theorem inlX5 : ∀ w ∈ wsX50, w ∈ wsL_law := fun _ h => List.mem_append_left _ (List.mem_append_right _ h)
theorem inlX6 : ∀ w ∈ wsX60, w ∈ wsL_law := fun _ h => List.mem_append_left _ (List.mem_append_left _ (List.mem_append_left _ (List.mem_append_left _ (List.mem_append_left _ (List.mem_append_left _ (List.mem_append_left _ (List.mem_append_left _ (List.mem_append_right _ h))))))))
theorem inlX7 : ∀ w ∈ wsX70, w ∈ wsL_law := fun _ h => List.mem_append_left _ (List.mem_append_left _ (List.mem_append_left _ (List.mem_append_left _ (List.mem_append_left _ (List.mem_append_left _ (List.mem_append_left _ (List.mem_append_right _ h)))))))
end
section
theorem dX0_init_0 : decode cX0_init 0 = .ok (.aload_n 0, 1) := by decide +kernel
theorem dX0_init_1 : decode cX0_init 1 = .ok (.invokespecial 3, 3) := by decide +kernel
theorem dX0_init_4 : decode cX0_init 4 = .ok (.aload_n 0, 1) := by decide +kernel
theorem dX0_init_5 : decode cX0_init 5 = .ok (.bipush 7, 2) := by decide +kernel
theorem dX0_init_7 : decode cX0_init 7 = .ok (.anewarray 11, 3) := by decide +kernel
theorem dX0_init_10 : decode cX0_init 10 = .ok (.putfield 13, 3) := by decide +kernel
theorem dX0_init_13 : decode cX0_init 13 = .ok (.iconst 0, 1) := by decide +kernel
theorem dX0_init_14 : decode cX0_init 14 = .ok (.istore_n 1, 1) := by decide +kernel
theorem dX0_init_15 : decode cX0_init 15 = .ok (.iload_n 1, 1) := by decide +kernel
theorem dX0_init_16 : decode cX0_init 16 = .ok (.bipush 7, 2) := by decide +kernel
theorem dX0_init_18 : decode cX0_init 18 = .ok (.if_icmp .ge 22, 3) := by decide +kernel
theorem dX0_init_21 : decode cX0_init 21 = .ok (.aload_n 0, 1) := by decide +kernel
theorem dX0_init_22 : decode cX0_init 22 = .ok (.getfield 13, 3) := by decide +kernel
theorem dX0_init_25 : decode cX0_init 25 = .ok (.iload_n 1, 1) := by decide +kernel
theorem dX0_init_26 : decode cX0_init 26 = .ok (.new 11, 3) := by decide +kernel
theorem dX0_init_29 : decode cX0_init 29 = .ok (.dup, 1) := by decide +kernel
theorem dX0_init_30 : decode cX0_init 30 = .ok (.invokespecial 17, 3) := by decide +kernel
theorem dX0_init_33 : decode cX0_init 33 = .ok (.aastore, 1) := by decide +kernel
theorem dX0_init_34 : decode cX0_init 34 = .ok (.iinc 1 1, 3) := by decide +kernel
theorem dX0_init_37 : decode cX0_init 37 = .ok (.goto (-22), 3) := by decide +kernel
theorem dX0_init_40 : decode cX0_init 40 = .ok (.return_, 1) := by decide +kernel
theorem dX0_draft_0 : decode cX0_draft 0 = .ok (.aload_n 0, 1) := by decide +kernel
theorem dX0_draft_1 : decode cX0_draft 1 = .ok (.getfield 13, 3) := by decide +kernel
theorem dX0_draft_4 : decode cX0_draft 4 = .ok (.aload_n 0, 1) := by decide +kernel
theorem dX0_draft_5 : decode cX0_draft 5 = .ok (.getfield 18, 3) := by decide +kernel
theorem dX0_draft_8 : decode cX0_draft 8 = .ok (.aaload, 1) := by decide +kernel
theorem dX0_draft_9 : decode cX0_draft 9 = .ok (.aload_n 1, 1) := by decide +kernel
theorem dX0_draft_10 : decode cX0_draft 10 = .ok (.invokevirtual 22, 3) := by decide +kernel
theorem dX0_draft_13 : decode cX0_draft 13 = .ok (.return_, 1) := by decide +kernel
theorem dX0_keepUnlessError_0 : decode cX0_keepUnlessError 0 = .ok (.iload_n 1, 1) := by decide +kernel
theorem dX0_keepUnlessError_1 : decode cX0_keepUnlessError 1 = .ok (.ifCond .lt 43, 3) := by decide +kernel
theorem dX0_keepUnlessError_4 : decode cX0_keepUnlessError 4 = .ok (.aload_n 0, 1) := by decide +kernel
theorem dX0_keepUnlessError_5 : decode cX0_keepUnlessError 5 = .ok (.aload_n 0, 1) := by decide +kernel
theorem dX0_keepUnlessError_6 : decode cX0_keepUnlessError 6 = .ok (.getfield 18, 3) := by decide +kernel
theorem dX0_keepUnlessError_9 : decode cX0_keepUnlessError 9 = .ok (.iconst 1, 1) := by decide +kernel
theorem dX0_keepUnlessError_10 : decode cX0_keepUnlessError 10 = .ok (.iadd, 1) := by decide +kernel
theorem dX0_keepUnlessError_11 : decode cX0_keepUnlessError 11 = .ok (.bipush 7, 2) := by decide +kernel
theorem dX0_keepUnlessError_13 : decode cX0_keepUnlessError 13 = .ok (.if_icmp .ge 12, 3) := by decide +kernel
theorem dX0_keepUnlessError_16 : decode cX0_keepUnlessError 16 = .ok (.aload_n 0, 1) := by decide +kernel
theorem dX0_keepUnlessError_17 : decode cX0_keepUnlessError 17 = .ok (.getfield 18, 3) := by decide +kernel
theorem dX0_keepUnlessError_20 : decode cX0_keepUnlessError 20 = .ok (.iconst 1, 1) := by decide +kernel
theorem dX0_keepUnlessError_21 : decode cX0_keepUnlessError 21 = .ok (.iadd, 1) := by decide +kernel
theorem dX0_keepUnlessError_22 : decode cX0_keepUnlessError 22 = .ok (.goto 4, 3) := by decide +kernel
theorem dX0_keepUnlessError_25 : decode cX0_keepUnlessError 25 = .ok (.iconst 0, 1) := by decide +kernel
theorem dX0_keepUnlessError_26 : decode cX0_keepUnlessError 26 = .ok (.putfield 18, 3) := by decide +kernel
theorem dX0_keepUnlessError_29 : decode cX0_keepUnlessError 29 = .ok (.aload_n 0, 1) := by decide +kernel
theorem dX0_keepUnlessError_30 : decode cX0_keepUnlessError 30 = .ok (.aload_n 0, 1) := by decide +kernel
theorem dX0_keepUnlessError_31 : decode cX0_keepUnlessError 31 = .ok (.getfield 26, 3) := by decide +kernel
theorem dX0_keepUnlessError_34 : decode cX0_keepUnlessError 34 = .ok (.iconst 1, 1) := by decide +kernel
theorem dX0_keepUnlessError_35 : decode cX0_keepUnlessError 35 = .ok (.iadd, 1) := by decide +kernel
theorem dX0_keepUnlessError_36 : decode cX0_keepUnlessError 36 = .ok (.bipush 6, 2) := by decide +kernel
theorem dX0_keepUnlessError_38 : decode cX0_keepUnlessError 38 = .ok (.invokestatic 29, 3) := by decide +kernel
theorem dX0_keepUnlessError_41 : decode cX0_keepUnlessError 41 = .ok (.putfield 26, 3) := by decide +kernel
theorem dX0_keepUnlessError_44 : decode cX0_keepUnlessError 44 = .ok (.iload_n 1, 1) := by decide +kernel
theorem dX0_keepUnlessError_45 : decode cX0_keepUnlessError 45 = .ok (.ireturn, 1) := by decide +kernel
theorem dX0_takeBack_0 : decode cX0_takeBack 0 = .ok (.aload_n 0, 1) := by decide +kernel
theorem dX0_takeBack_1 : decode cX0_takeBack 1 = .ok (.getfield 26, 3) := by decide +kernel
theorem dX0_takeBack_4 : decode cX0_takeBack 4 = .ok (.ifCond .ne 6, 3) := by decide +kernel
theorem dX0_takeBack_7 : decode cX0_takeBack 7 = .ok (.bipush (-5), 2) := by decide +kernel
theorem dX0_takeBack_9 : decode cX0_takeBack 9 = .ok (.ireturn, 1) := by decide +kernel
theorem dX0_takeBack_10 : decode cX0_takeBack 10 = .ok (.aload_n 0, 1) := by decide +kernel
theorem dX0_takeBack_11 : decode cX0_takeBack 11 = .ok (.aload_n 0, 1) := by decide +kernel
theorem dX0_takeBack_12 : decode cX0_takeBack 12 = .ok (.getfield 18, 3) := by decide +kernel
theorem dX0_takeBack_15 : decode cX0_takeBack 15 = .ok (.ifCond .le 12, 3) := by decide +kernel
theorem dX0_takeBack_18 : decode cX0_takeBack 18 = .ok (.aload_n 0, 1) := by decide +kernel
theorem dX0_takeBack_19 : decode cX0_takeBack 19 = .ok (.getfield 18, 3) := by decide +kernel
theorem dX0_takeBack_22 : decode cX0_takeBack 22 = .ok (.iconst 1, 1) := by decide +kernel
theorem dX0_takeBack_23 : decode cX0_takeBack 23 = .ok (.isub, 1) := by decide +kernel
theorem dX0_takeBack_24 : decode cX0_takeBack 24 = .ok (.goto 5, 3) := by decide +kernel
theorem dX0_takeBack_27 : decode cX0_takeBack 27 = .ok (.bipush 6, 2) := by decide +kernel
theorem dX0_takeBack_29 : decode cX0_takeBack 29 = .ok (.putfield 18, 3) := by decide +kernel
theorem dX0_takeBack_32 : decode cX0_takeBack 32 = .ok (.aload_n 0, 1) := by decide +kernel
theorem dX0_takeBack_33 : decode cX0_takeBack 33 = .ok (.dup, 1) := by decide +kernel
theorem dX0_takeBack_34 : decode cX0_takeBack 34 = .ok (.getfield 26, 3) := by decide +kernel
theorem dX0_takeBack_37 : decode cX0_takeBack 37 = .ok (.iconst 1, 1) := by decide +kernel
theorem dX0_takeBack_38 : decode cX0_takeBack 38 = .ok (.isub, 1) := by decide +kernel
theorem dX0_takeBack_39 : decode cX0_takeBack 39 = .ok (.putfield 26, 3) := by decide +kernel
theorem dX0_takeBack_42 : decode cX0_takeBack 42 = .ok (.aload_n 1, 1) := by decide +kernel
theorem dX0_takeBack_43 : decode cX0_takeBack 43 = .ok (.aload_n 0, 1) := by decide +kernel
theorem dX0_takeBack_44 : decode cX0_takeBack 44 = .ok (.getfield 13, 3) := by decide +kernel
theorem dX0_takeBack_47 : decode cX0_takeBack 47 = .ok (.aload_n 0, 1) := by decide +kernel
theorem dX0_takeBack_48 : decode cX0_takeBack 48 = .ok (.getfield 18, 3) := by decide +kernel
theorem dX0_takeBack_51 : decode cX0_takeBack 51 = .ok (.aaload, 1) := by decide +kernel
theorem dX0_takeBack_52 : decode cX0_takeBack 52 = .ok (.invokevirtual 22, 3) := by decide +kernel
theorem dX0_takeBack_55 : decode cX0_takeBack 55 = .ok (.aload_n 0, 1) := by decide +kernel
theorem dX0_takeBack_56 : decode cX0_takeBack 56 = .ok (.getfield 26, 3) := by decide +kernel
theorem dX0_takeBack_59 : decode cX0_takeBack 59 = .ok (.ireturn, 1) := by decide +kernel
theorem dX1_init_0 : decode cX1_init 0 = .ok (.aload_n 0, 1) := by decide +kernel
theorem dX1_init_1 : decode cX1_init 1 = .ok (.invokespecial 1, 3) := by decide +kernel
theorem dX1_init_4 : decode cX1_init 4 = .ok (.return_, 1) := by decide +kernel
theorem dX1_place_0 : decode cX1_place 0 = .ok (.aload_n 0, 1) := by decide +kernel
theorem dX1_place_1 : decode cX1_place 1 = .ok (.iload_n 1, 1) := by decide +kernel
theorem dX1_place_2 : decode cX1_place 2 = .ok (.putfield 7, 3) := by decide +kernel
theorem dX1_place_5 : decode cX1_place 5 = .ok (.aload_n 0, 1) := by decide +kernel
theorem dX1_place_6 : decode cX1_place 6 = .ok (.iconst 0, 1) := by decide +kernel
theorem dX1_place_7 : decode cX1_place 7 = .ok (.putfield 13, 3) := by decide +kernel
theorem dX1_place_10 : decode cX1_place 10 = .ok (.return_, 1) := by decide +kernel
theorem dX1_copyFrom_0 : decode cX1_copyFrom 0 = .ok (.aload_n 0, 1) := by decide +kernel
theorem dX1_copyFrom_1 : decode cX1_copyFrom 1 = .ok (.aload_n 1, 1) := by decide +kernel
theorem dX1_copyFrom_2 : decode cX1_copyFrom 2 = .ok (.getfield 7, 3) := by decide +kernel
theorem dX1_copyFrom_5 : decode cX1_copyFrom 5 = .ok (.putfield 7, 3) := by decide +kernel
theorem dX1_copyFrom_8 : decode cX1_copyFrom 8 = .ok (.aload_n 0, 1) := by decide +kernel
theorem dX1_copyFrom_9 : decode cX1_copyFrom 9 = .ok (.aload_n 1, 1) := by decide +kernel
theorem dX1_copyFrom_10 : decode cX1_copyFrom 10 = .ok (.getfield 13, 3) := by decide +kernel
theorem dX1_copyFrom_13 : decode cX1_copyFrom 13 = .ok (.putfield 13, 3) := by decide +kernel
theorem dX1_copyFrom_16 : decode cX1_copyFrom 16 = .ok (.return_, 1) := by decide +kernel
theorem dX2_init_0 : decode cX2_init 0 = .ok (.aload_n 0, 1) := by decide +kernel
theorem dX2_init_1 : decode cX2_init 1 = .ok (.invokespecial 3, 3) := by decide +kernel
theorem dX2_init_4 : decode cX2_init 4 = .ok (.return_, 1) := by decide +kernel
theorem dX2_place_0 : decode cX2_place 0 = .ok (.aload_n 0, 1) := by decide +kernel
theorem dX2_place_1 : decode cX2_place 1 = .ok (.iload_n 1, 1) := by decide +kernel
theorem dX2_place_2 : decode cX2_place 2 = .ok (.putfield 9, 3) := by decide +kernel
theorem dX2_place_5 : decode cX2_place 5 = .ok (.aload_n 0, 1) := by decide +kernel
theorem dX2_place_6 : decode cX2_place 6 = .ok (.iload_n 2, 1) := by decide +kernel
theorem dX2_place_7 : decode cX2_place 7 = .ok (.putfield 15, 3) := by decide +kernel
theorem dX2_place_10 : decode cX2_place 10 = .ok (.aload_n 0, 1) := by decide +kernel
theorem dX2_place_11 : decode cX2_place 11 = .ok (.iconst 0, 1) := by decide +kernel
theorem dX2_place_12 : decode cX2_place 12 = .ok (.putfield 18, 3) := by decide +kernel
theorem dX2_place_15 : decode cX2_place 15 = .ok (.aload_n 0, 1) := by decide +kernel
theorem dX2_place_16 : decode cX2_place 16 = .ok (.iconst 0, 1) := by decide +kernel
theorem dX2_place_17 : decode cX2_place 17 = .ok (.putfield 21, 3) := by decide +kernel
theorem dX2_place_20 : decode cX2_place 20 = .ok (.aload_n 0, 1) := by decide +kernel
theorem dX2_place_21 : decode cX2_place 21 = .ok (.iconst 0, 1) := by decide +kernel
theorem dX2_place_22 : decode cX2_place 22 = .ok (.putfield 24, 3) := by decide +kernel
theorem dX2_place_25 : decode cX2_place 25 = .ok (.aload_n 0, 1) := by decide +kernel
theorem dX2_place_26 : decode cX2_place 26 = .ok (.bipush (-6), 2) := by decide +kernel
theorem dX2_place_28 : decode cX2_place 28 = .ok (.putfield 27, 3) := by decide +kernel
theorem dX2_place_31 : decode cX2_place 31 = .ok (.aload_n 0, 1) := by decide +kernel
theorem dX2_place_32 : decode cX2_place 32 = .ok (.iconst 0, 1) := by decide +kernel
theorem dX2_place_33 : decode cX2_place 33 = .ok (.putfield 30, 3) := by decide +kernel
theorem dX2_place_36 : decode cX2_place 36 = .ok (.aload_n 0, 1) := by decide +kernel
theorem dX2_place_37 : decode cX2_place 37 = .ok (.iconst 0, 1) := by decide +kernel
theorem dX2_place_38 : decode cX2_place 38 = .ok (.putfield 33, 3) := by decide +kernel
theorem dX2_place_41 : decode cX2_place 41 = .ok (.aload_n 0, 1) := by decide +kernel
theorem dX2_place_42 : decode cX2_place 42 = .ok (.iconst 0, 1) := by decide +kernel
theorem dX2_place_43 : decode cX2_place 43 = .ok (.putfield 36, 3) := by decide +kernel
theorem dX2_place_46 : decode cX2_place 46 = .ok (.aload_n 0, 1) := by decide +kernel
theorem dX2_place_47 : decode cX2_place 47 = .ok (.iconst 0, 1) := by decide +kernel
theorem dX2_place_48 : decode cX2_place 48 = .ok (.putfield 39, 3) := by decide +kernel
theorem dX2_place_51 : decode cX2_place 51 = .ok (.aload_n 0, 1) := by decide +kernel
theorem dX2_place_52 : decode cX2_place 52 = .ok (.iconst 0, 1) := by decide +kernel
theorem dX2_place_53 : decode cX2_place 53 = .ok (.putfield 42, 3) := by decide +kernel
theorem dX2_place_56 : decode cX2_place 56 = .ok (.return_, 1) := by decide +kernel
theorem dX2_copyFrom_0 : decode cX2_copyFrom 0 = .ok (.aload_n 0, 1) := by decide +kernel
theorem dX2_copyFrom_1 : decode cX2_copyFrom 1 = .ok (.aload_n 1, 1) := by decide +kernel
theorem dX2_copyFrom_2 : decode cX2_copyFrom 2 = .ok (.getfield 9, 3) := by decide +kernel
theorem dX2_copyFrom_5 : decode cX2_copyFrom 5 = .ok (.putfield 9, 3) := by decide +kernel
theorem dX2_copyFrom_8 : decode cX2_copyFrom 8 = .ok (.aload_n 0, 1) := by decide +kernel
theorem dX2_copyFrom_9 : decode cX2_copyFrom 9 = .ok (.aload_n 1, 1) := by decide +kernel
theorem dX2_copyFrom_10 : decode cX2_copyFrom 10 = .ok (.getfield 15, 3) := by decide +kernel
theorem dX2_copyFrom_13 : decode cX2_copyFrom 13 = .ok (.putfield 15, 3) := by decide +kernel
theorem dX2_copyFrom_16 : decode cX2_copyFrom 16 = .ok (.aload_n 0, 1) := by decide +kernel
theorem dX2_copyFrom_17 : decode cX2_copyFrom 17 = .ok (.aload_n 1, 1) := by decide +kernel
theorem dX2_copyFrom_18 : decode cX2_copyFrom 18 = .ok (.getfield 18, 3) := by decide +kernel
theorem dX2_copyFrom_21 : decode cX2_copyFrom 21 = .ok (.putfield 18, 3) := by decide +kernel
theorem dX2_copyFrom_24 : decode cX2_copyFrom 24 = .ok (.aload_n 0, 1) := by decide +kernel
theorem dX2_copyFrom_25 : decode cX2_copyFrom 25 = .ok (.aload_n 1, 1) := by decide +kernel
theorem dX2_copyFrom_26 : decode cX2_copyFrom 26 = .ok (.getfield 21, 3) := by decide +kernel
theorem dX2_copyFrom_29 : decode cX2_copyFrom 29 = .ok (.putfield 21, 3) := by decide +kernel
theorem dX2_copyFrom_32 : decode cX2_copyFrom 32 = .ok (.aload_n 0, 1) := by decide +kernel
theorem dX2_copyFrom_33 : decode cX2_copyFrom 33 = .ok (.aload_n 1, 1) := by decide +kernel
theorem dX2_copyFrom_34 : decode cX2_copyFrom 34 = .ok (.getfield 24, 3) := by decide +kernel
theorem dX2_copyFrom_37 : decode cX2_copyFrom 37 = .ok (.putfield 24, 3) := by decide +kernel
theorem dX2_copyFrom_40 : decode cX2_copyFrom 40 = .ok (.aload_n 0, 1) := by decide +kernel
theorem dX2_copyFrom_41 : decode cX2_copyFrom 41 = .ok (.aload_n 1, 1) := by decide +kernel
theorem dX2_copyFrom_42 : decode cX2_copyFrom 42 = .ok (.getfield 27, 3) := by decide +kernel
theorem dX2_copyFrom_45 : decode cX2_copyFrom 45 = .ok (.putfield 27, 3) := by decide +kernel
theorem dX2_copyFrom_48 : decode cX2_copyFrom 48 = .ok (.aload_n 0, 1) := by decide +kernel
theorem dX2_copyFrom_49 : decode cX2_copyFrom 49 = .ok (.aload_n 1, 1) := by decide +kernel
theorem dX2_copyFrom_50 : decode cX2_copyFrom 50 = .ok (.getfield 30, 3) := by decide +kernel
theorem dX2_copyFrom_53 : decode cX2_copyFrom 53 = .ok (.putfield 30, 3) := by decide +kernel
theorem dX2_copyFrom_56 : decode cX2_copyFrom 56 = .ok (.aload_n 0, 1) := by decide +kernel
theorem dX2_copyFrom_57 : decode cX2_copyFrom 57 = .ok (.aload_n 1, 1) := by decide +kernel
theorem dX2_copyFrom_58 : decode cX2_copyFrom 58 = .ok (.getfield 33, 3) := by decide +kernel
theorem dX2_copyFrom_61 : decode cX2_copyFrom 61 = .ok (.putfield 33, 3) := by decide +kernel
theorem dX2_copyFrom_64 : decode cX2_copyFrom 64 = .ok (.aload_n 0, 1) := by decide +kernel
theorem dX2_copyFrom_65 : decode cX2_copyFrom 65 = .ok (.aload_n 1, 1) := by decide +kernel
theorem dX2_copyFrom_66 : decode cX2_copyFrom 66 = .ok (.getfield 36, 3) := by decide +kernel
theorem dX2_copyFrom_69 : decode cX2_copyFrom 69 = .ok (.putfield 36, 3) := by decide +kernel
theorem dX2_copyFrom_72 : decode cX2_copyFrom 72 = .ok (.aload_n 0, 1) := by decide +kernel
theorem dX2_copyFrom_73 : decode cX2_copyFrom 73 = .ok (.aload_n 1, 1) := by decide +kernel
theorem dX2_copyFrom_74 : decode cX2_copyFrom 74 = .ok (.getfield 39, 3) := by decide +kernel
theorem dX2_copyFrom_77 : decode cX2_copyFrom 77 = .ok (.putfield 39, 3) := by decide +kernel
theorem dX2_copyFrom_80 : decode cX2_copyFrom 80 = .ok (.aload_n 0, 1) := by decide +kernel
theorem dX2_copyFrom_81 : decode cX2_copyFrom 81 = .ok (.aload_n 1, 1) := by decide +kernel
theorem dX2_copyFrom_82 : decode cX2_copyFrom 82 = .ok (.getfield 42, 3) := by decide +kernel
theorem dX2_copyFrom_85 : decode cX2_copyFrom 85 = .ok (.putfield 42, 3) := by decide +kernel
theorem dX2_copyFrom_88 : decode cX2_copyFrom 88 = .ok (.return_, 1) := by decide +kernel
theorem dX2_forgetTick_0 : decode cX2_forgetTick 0 = .ok (.aload_n 0, 1) := by decide +kernel
theorem dX2_forgetTick_1 : decode cX2_forgetTick 1 = .ok (.iconst 0, 1) := by decide +kernel
theorem dX2_forgetTick_2 : decode cX2_forgetTick 2 = .ok (.putfield 45, 3) := by decide +kernel
theorem dX2_forgetTick_5 : decode cX2_forgetTick 5 = .ok (.aload_n 0, 1) := by decide +kernel
theorem dX2_forgetTick_6 : decode cX2_forgetTick 6 = .ok (.iconst 0, 1) := by decide +kernel
theorem dX2_forgetTick_7 : decode cX2_forgetTick 7 = .ok (.putfield 49, 3) := by decide +kernel
theorem dX2_forgetTick_10 : decode cX2_forgetTick 10 = .ok (.return_, 1) := by decide +kernel
theorem dX2_distanceTo_0 : decode cX2_distanceTo 0 = .ok (.aload_n 0, 1) := by decide +kernel
theorem dX2_distanceTo_1 : decode cX2_distanceTo 1 = .ok (.getfield 9, 3) := by decide +kernel
theorem dX2_distanceTo_4 : decode cX2_distanceTo 4 = .ok (.iload_n 1, 1) := by decide +kernel
theorem dX2_distanceTo_5 : decode cX2_distanceTo 5 = .ok (.isub, 1) := by decide +kernel
theorem dX2_distanceTo_6 : decode cX2_distanceTo 6 = .ok (.invokestatic 52, 3) := by decide +kernel
theorem dX2_distanceTo_9 : decode cX2_distanceTo 9 = .ok (.ireturn, 1) := by decide +kernel
theorem dX2_lights_0 : decode cX2_lights 0 = .ok (.aload_n 0, 1) := by decide +kernel
theorem dX2_lights_1 : decode cX2_lights 1 = .ok (.getfield 18, 3) := by decide +kernel
theorem dX2_lights_4 : decode cX2_lights 4 = .ok (.ifCond .ne 5, 3) := by decide +kernel
theorem dX2_lights_7 : decode cX2_lights 7 = .ok (.iconst 0, 1) := by decide +kernel
theorem dX2_lights_8 : decode cX2_lights 8 = .ok (.ireturn, 1) := by decide +kernel
theorem dX2_lights_9 : decode cX2_lights 9 = .ok (.aload_n 0, 1) := by decide +kernel
theorem dX2_lights_10 : decode cX2_lights 10 = .ok (.iload_n 1, 1) := by decide +kernel
theorem dX2_lights_11 : decode cX2_lights 11 = .ok (.invokevirtual 58, 3) := by decide +kernel
theorem dX2_lights_14 : decode cX2_lights 14 = .ok (.aload_n 0, 1) := by decide +kernel
theorem dX2_lights_15 : decode cX2_lights 15 = .ok (.getfield 18, 3) := by decide +kernel
theorem dX2_lights_18 : decode cX2_lights 18 = .ok (.iconst 2, 1) := by decide +kernel
theorem dX2_lights_19 : decode cX2_lights 19 = .ok (.if_icmp .ne 10, 3) := by decide +kernel
theorem dX2_lights_22 : decode cX2_lights 22 = .ok (.aload_n 0, 1) := by decide +kernel
theorem dX2_lights_23 : decode cX2_lights 23 = .ok (.getfield 15, 3) := by decide +kernel
theorem dX2_lights_26 : decode cX2_lights 26 = .ok (.goto 9, 3) := by decide +kernel
theorem dX2_lights_29 : decode cX2_lights 29 = .ok (.aload_n 0, 1) := by decide +kernel
theorem dX2_lights_30 : decode cX2_lights 30 = .ok (.getfield 15, 3) := by decide +kernel
theorem dX2_lights_33 : decode cX2_lights 33 = .ok (.iconst 2, 1) := by decide +kernel
theorem dX2_lights_34 : decode cX2_lights 34 = .ok (.idiv, 1) := by decide +kernel
theorem dX2_lights_35 : decode cX2_lights 35 = .ok (.if_icmp .gt 7, 3) := by decide +kernel
theorem dX2_lights_38 : decode cX2_lights 38 = .ok (.iconst 1, 1) := by decide +kernel
theorem dX2_lights_39 : decode cX2_lights 39 = .ok (.goto 4, 3) := by decide +kernel
theorem dX2_lights_42 : decode cX2_lights 42 = .ok (.iconst 0, 1) := by decide +kernel
theorem dX2_lights_43 : decode cX2_lights 43 = .ok (.ireturn, 1) := by decide +kernel
theorem dX2_disturbs_0 : decode cX2_disturbs 0 = .ok (.aload_n 0, 1) := by decide +kernel
theorem dX2_disturbs_1 : decode cX2_disturbs 1 = .ok (.getfield 18, 3) := by decide +kernel
theorem dX2_disturbs_4 : decode cX2_disturbs 4 = .ok (.iconst 2, 1) := by decide +kernel
theorem dX2_disturbs_5 : decode cX2_disturbs 5 = .ok (.if_icmp .ne 21, 3) := by decide +kernel
theorem dX2_disturbs_8 : decode cX2_disturbs 8 = .ok (.aload_n 0, 1) := by decide +kernel
theorem dX2_disturbs_9 : decode cX2_disturbs 9 = .ok (.iload_n 1, 1) := by decide +kernel
theorem dX2_disturbs_10 : decode cX2_disturbs 10 = .ok (.invokevirtual 58, 3) := by decide +kernel
theorem dX2_disturbs_13 : decode cX2_disturbs 13 = .ok (.aload_n 0, 1) := by decide +kernel
theorem dX2_disturbs_14 : decode cX2_disturbs 14 = .ok (.getfield 15, 3) := by decide +kernel
theorem dX2_disturbs_17 : decode cX2_disturbs 17 = .ok (.iconst 3, 1) := by decide +kernel
theorem dX2_disturbs_18 : decode cX2_disturbs 18 = .ok (.idiv, 1) := by decide +kernel
theorem dX2_disturbs_19 : decode cX2_disturbs 19 = .ok (.if_icmp .gt 7, 3) := by decide +kernel
theorem dX2_disturbs_22 : decode cX2_disturbs 22 = .ok (.iconst 1, 1) := by decide +kernel
theorem dX2_disturbs_23 : decode cX2_disturbs 23 = .ok (.goto 4, 3) := by decide +kernel
theorem dX2_disturbs_26 : decode cX2_disturbs 26 = .ok (.iconst 0, 1) := by decide +kernel
theorem dX2_disturbs_27 : decode cX2_disturbs 27 = .ok (.ireturn, 1) := by decide +kernel
theorem dX2_wake_0 : decode cX2_wake 0 = .ok (.aload_n 0, 1) := by decide +kernel
theorem dX2_wake_1 : decode cX2_wake 1 = .ok (.iconst 2, 1) := by decide +kernel
theorem dX2_wake_2 : decode cX2_wake 2 = .ok (.putfield 18, 3) := by decide +kernel
theorem dX2_wake_5 : decode cX2_wake 5 = .ok (.aload_n 0, 1) := by decide +kernel
theorem dX2_wake_6 : decode cX2_wake 6 = .ok (.iload_n 1, 1) := by decide +kernel
theorem dX2_wake_7 : decode cX2_wake 7 = .ok (.putfield 24, 3) := by decide +kernel
theorem dX2_wake_10 : decode cX2_wake 10 = .ok (.aload_n 0, 1) := by decide +kernel
theorem dX2_wake_11 : decode cX2_wake 11 = .ok (.iconst 1, 1) := by decide +kernel
theorem dX2_wake_12 : decode cX2_wake 12 = .ok (.putfield 45, 3) := by decide +kernel
theorem dX2_wake_15 : decode cX2_wake 15 = .ok (.return_, 1) := by decide +kernel
theorem dX2_hear_0 : decode cX2_hear 0 = .ok (.aload_n 0, 1) := by decide +kernel
theorem dX2_hear_1 : decode cX2_hear 1 = .ok (.dup, 1) := by decide +kernel
theorem dX2_hear_2 : decode cX2_hear 2 = .ok (.getfield 39, 3) := by decide +kernel
theorem dX2_hear_5 : decode cX2_hear 5 = .ok (.iconst 1, 1) := by decide +kernel
theorem dX2_hear_6 : decode cX2_hear 6 = .ok (.iadd, 1) := by decide +kernel
theorem dX2_hear_7 : decode cX2_hear 7 = .ok (.putfield 39, 3) := by decide +kernel
theorem dX2_hear_10 : decode cX2_hear 10 = .ok (.aload_n 0, 1) := by decide +kernel
theorem dX2_hear_11 : decode cX2_hear 11 = .ok (.aload_n 2, 1) := by decide +kernel
theorem dX2_hear_12 : decode cX2_hear 12 = .ok (.iconst 2, 1) := by decide +kernel
theorem dX2_hear_13 : decode cX2_hear 13 = .ok (.iaload, 1) := by decide +kernel
theorem dX2_hear_14 : decode cX2_hear 14 = .ok (.invokevirtual 61, 3) := by decide +kernel
theorem dX2_hear_17 : decode cX2_hear 17 = .ok (.iload_n 1, 1) := by decide +kernel
theorem dX2_hear_18 : decode cX2_hear 18 = .ok (.aload_n 2, 1) := by decide +kernel
theorem dX2_hear_19 : decode cX2_hear 19 = .ok (.iconst 5, 1) := by decide +kernel
theorem dX2_hear_20 : decode cX2_hear 20 = .ok (.iaload, 1) := by decide +kernel
theorem dX2_hear_21 : decode cX2_hear 21 = .ok (.if_icmp .ge 33, 3) := by decide +kernel
theorem dX2_hear_24 : decode cX2_hear 24 = .ok (.aload_n 0, 1) := by decide +kernel
theorem dX2_hear_25 : decode cX2_hear 25 = .ok (.getfield 27, 3) := by decide +kernel
theorem dX2_hear_28 : decode cX2_hear 28 = .ok (.bipush (-6), 2) := by decide +kernel
theorem dX2_hear_30 : decode cX2_hear 30 = .ok (.if_icmp .ne 24, 3) := by decide +kernel
theorem dX2_hear_33 : decode cX2_hear 33 = .ok (.aload_n 0, 1) := by decide +kernel
theorem dX2_hear_34 : decode cX2_hear 34 = .ok (.getfield 49, 3) := by decide +kernel
theorem dX2_hear_37 : decode cX2_hear 37 = .ok (.ifCond .ne 17, 3) := by decide +kernel
theorem dX2_hear_40 : decode cX2_hear 40 = .ok (.aload_n 0, 1) := by decide +kernel
theorem dX2_hear_41 : decode cX2_hear 41 = .ok (.aload_n 2, 1) := by decide +kernel
theorem dX2_hear_42 : decode cX2_hear 42 = .ok (.iconst 4, 1) := by decide +kernel
theorem dX2_hear_43 : decode cX2_hear 43 = .ok (.iaload, 1) := by decide +kernel
theorem dX2_hear_44 : decode cX2_hear 44 = .ok (.putfield 27, 3) := by decide +kernel
theorem dX2_hear_47 : decode cX2_hear 47 = .ok (.aload_n 0, 1) := by decide +kernel
theorem dX2_hear_48 : decode cX2_hear 48 = .ok (.iload_n 1, 1) := by decide +kernel
theorem dX2_hear_49 : decode cX2_hear 49 = .ok (.iconst 1, 1) := by decide +kernel
theorem dX2_hear_50 : decode cX2_hear 50 = .ok (.iadd, 1) := by decide +kernel
theorem dX2_hear_51 : decode cX2_hear 51 = .ok (.putfield 30, 3) := by decide +kernel
theorem dX2_hear_54 : decode cX2_hear 54 = .ok (.return_, 1) := by decide +kernel
theorem dX2_takeTurn_0 : decode cX2_takeTurn 0 = .ok (.aload_n 0, 1) := by decide +kernel
theorem dX2_takeTurn_1 : decode cX2_takeTurn 1 = .ok (.bipush (-6), 2) := by decide +kernel
theorem dX2_takeTurn_3 : decode cX2_takeTurn 3 = .ok (.putfield 27, 3) := by decide +kernel
theorem dX2_takeTurn_6 : decode cX2_takeTurn 6 = .ok (.aload_n 0, 1) := by decide +kernel
theorem dX2_takeTurn_7 : decode cX2_takeTurn 7 = .ok (.iconst 1, 1) := by decide +kernel
theorem dX2_takeTurn_8 : decode cX2_takeTurn 8 = .ok (.putfield 49, 3) := by decide +kernel
theorem dX2_takeTurn_11 : decode cX2_takeTurn 11 = .ok (.return_, 1) := by decide +kernel
theorem dX2_fade_0 : decode cX2_fade 0 = .ok (.aload_n 0, 1) := by decide +kernel
theorem dX2_fade_1 : decode cX2_fade 1 = .ok (.getfield 18, 3) := by decide +kernel
theorem dX2_fade_4 : decode cX2_fade 4 = .ok (.ifCond .eq 10, 3) := by decide +kernel
theorem dX2_fade_7 : decode cX2_fade 7 = .ok (.aload_n 0, 1) := by decide +kernel
theorem dX2_fade_8 : decode cX2_fade 8 = .ok (.getfield 45, 3) := by decide +kernel
theorem dX2_fade_11 : decode cX2_fade 11 = .ok (.ifCond .eq 4, 3) := by decide +kernel
theorem dX2_fade_14 : decode cX2_fade 14 = .ok (.return_, 1) := by decide +kernel
theorem dX2_fade_15 : decode cX2_fade 15 = .ok (.aload_n 0, 1) := by decide +kernel
theorem dX2_fade_16 : decode cX2_fade 16 = .ok (.dup, 1) := by decide +kernel
theorem dX2_fade_17 : decode cX2_fade 17 = .ok (.getfield 24, 3) := by decide +kernel
theorem dX2_fade_20 : decode cX2_fade 20 = .ok (.iconst 1, 1) := by decide +kernel
theorem dX2_fade_21 : decode cX2_fade 21 = .ok (.isub, 1) := by decide +kernel
theorem dX2_fade_22 : decode cX2_fade 22 = .ok (.putfield 24, 3) := by decide +kernel
theorem dX2_fade_25 : decode cX2_fade 25 = .ok (.aload_n 0, 1) := by decide +kernel
theorem dX2_fade_26 : decode cX2_fade 26 = .ok (.getfield 24, 3) := by decide +kernel
theorem dX2_fade_29 : decode cX2_fade 29 = .ok (.ifCond .le 4, 3) := by decide +kernel
theorem dX2_fade_32 : decode cX2_fade 32 = .ok (.return_, 1) := by decide +kernel
theorem dX2_fade_33 : decode cX2_fade 33 = .ok (.aload_n 0, 1) := by decide +kernel
theorem dX2_fade_34 : decode cX2_fade 34 = .ok (.getfield 18, 3) := by decide +kernel
theorem dX2_fade_37 : decode cX2_fade 37 = .ok (.iconst 2, 1) := by decide +kernel
theorem dX2_fade_38 : decode cX2_fade 38 = .ok (.if_icmp .ne 20, 3) := by decide +kernel
theorem dX2_fade_41 : decode cX2_fade 41 = .ok (.iload_n 1, 1) := by decide +kernel
theorem dX2_fade_42 : decode cX2_fade 42 = .ok (.ifCond .le 16, 3) := by decide +kernel
theorem dX2_fade_45 : decode cX2_fade 45 = .ok (.aload_n 0, 1) := by decide +kernel
theorem dX2_fade_46 : decode cX2_fade 46 = .ok (.iconst 1, 1) := by decide +kernel
theorem dX2_fade_47 : decode cX2_fade 47 = .ok (.putfield 18, 3) := by decide +kernel
theorem dX2_fade_50 : decode cX2_fade 50 = .ok (.aload_n 0, 1) := by decide +kernel
theorem dX2_fade_51 : decode cX2_fade 51 = .ok (.iload_n 1, 1) := by decide +kernel
theorem dX2_fade_52 : decode cX2_fade 52 = .ok (.putfield 24, 3) := by decide +kernel
theorem dX2_fade_55 : decode cX2_fade 55 = .ok (.goto 8, 3) := by decide +kernel
theorem dX2_fade_58 : decode cX2_fade 58 = .ok (.aload_n 0, 1) := by decide +kernel
theorem dX2_fade_59 : decode cX2_fade 59 = .ok (.iconst 0, 1) := by decide +kernel
theorem dX2_fade_60 : decode cX2_fade 60 = .ok (.putfield 18, 3) := by decide +kernel
theorem dX2_fade_63 : decode cX2_fade 63 = .ok (.return_, 1) := by decide +kernel
theorem dX2_useLight_0 : decode cX2_useLight 0 = .ok (.aload_n 0, 1) := by decide +kernel
theorem dX2_useLight_1 : decode cX2_useLight 1 = .ok (.getfield 18, 3) := by decide +kernel
theorem dX2_useLight_4 : decode cX2_useLight 4 = .ok (.iconst 2, 1) := by decide +kernel
theorem dX2_useLight_5 : decode cX2_useLight 5 = .ok (.if_icmp .ne 16, 3) := by decide +kernel
theorem dX2_useLight_8 : decode cX2_useLight 8 = .ok (.aload_n 0, 1) := by decide +kernel
theorem dX2_useLight_9 : decode cX2_useLight 9 = .ok (.dup, 1) := by decide +kernel
theorem dX2_useLight_10 : decode cX2_useLight 10 = .ok (.getfield 33, 3) := by decide +kernel
theorem dX2_useLight_13 : decode cX2_useLight 13 = .ok (.iconst 4, 1) := by decide +kernel
theorem dX2_useLight_14 : decode cX2_useLight 14 = .ok (.iadd, 1) := by decide +kernel
theorem dX2_useLight_15 : decode cX2_useLight 15 = .ok (.putfield 33, 3) := by decide +kernel
theorem dX2_useLight_18 : decode cX2_useLight 18 = .ok (.goto 21, 3) := by decide +kernel
theorem dX2_useLight_21 : decode cX2_useLight 21 = .ok (.aload_n 0, 1) := by decide +kernel
theorem dX2_useLight_22 : decode cX2_useLight 22 = .ok (.getfield 18, 3) := by decide +kernel
theorem dX2_useLight_25 : decode cX2_useLight 25 = .ok (.iconst 1, 1) := by decide +kernel
theorem dX2_useLight_26 : decode cX2_useLight 26 = .ok (.if_icmp .ne 13, 3) := by decide +kernel
theorem dX2_useLight_29 : decode cX2_useLight 29 = .ok (.aload_n 0, 1) := by decide +kernel
theorem dX2_useLight_30 : decode cX2_useLight 30 = .ok (.dup, 1) := by decide +kernel
theorem dX2_useLight_31 : decode cX2_useLight 31 = .ok (.getfield 33, 3) := by decide +kernel
theorem dX2_useLight_34 : decode cX2_useLight 34 = .ok (.iconst 1, 1) := by decide +kernel
theorem dX2_useLight_35 : decode cX2_useLight 35 = .ok (.iadd, 1) := by decide +kernel
theorem dX2_useLight_36 : decode cX2_useLight 36 = .ok (.putfield 33, 3) := by decide +kernel
theorem dX2_useLight_39 : decode cX2_useLight 39 = .ok (.return_, 1) := by decide +kernel
theorem dX2_becomes_0 : decode cX2_becomes 0 = .ok (.aload_n 0, 1) := by decide +kernel
theorem dX2_becomes_1 : decode cX2_becomes 1 = .ok (.iload_n 1, 1) := by decide +kernel
theorem dX2_becomes_2 : decode cX2_becomes 2 = .ok (.putfield 21, 3) := by decide +kernel
theorem dX2_becomes_5 : decode cX2_becomes 5 = .ok (.aload_n 0, 1) := by decide +kernel
theorem dX2_becomes_6 : decode cX2_becomes 6 = .ok (.getfield 21, 3) := by decide +kernel
theorem dX2_becomes_9 : decode cX2_becomes 9 = .ok (.iconst 2, 1) := by decide +kernel
theorem dX2_becomes_10 : decode cX2_becomes 10 = .ok (.if_icmp .ne 19, 3) := by decide +kernel
theorem dX2_becomes_13 : decode cX2_becomes 13 = .ok (.aload_n 0, 1) := by decide +kernel
theorem dX2_becomes_14 : decode cX2_becomes 14 = .ok (.iconst 0, 1) := by decide +kernel
theorem dX2_becomes_15 : decode cX2_becomes 15 = .ok (.putfield 18, 3) := by decide +kernel
theorem dX2_becomes_18 : decode cX2_becomes 18 = .ok (.aload_n 0, 1) := by decide +kernel
theorem dX2_becomes_19 : decode cX2_becomes 19 = .ok (.iconst 0, 1) := by decide +kernel
theorem dX2_becomes_20 : decode cX2_becomes 20 = .ok (.putfield 24, 3) := by decide +kernel
theorem dX2_becomes_23 : decode cX2_becomes 23 = .ok (.aload_n 0, 1) := by decide +kernel
theorem dX2_becomes_24 : decode cX2_becomes 24 = .ok (.bipush (-6), 2) := by decide +kernel
theorem dX2_becomes_26 : decode cX2_becomes 26 = .ok (.putfield 27, 3) := by decide +kernel
theorem dX2_becomes_29 : decode cX2_becomes 29 = .ok (.return_, 1) := by decide +kernel
theorem dX2_tell_0 : decode cX2_tell 0 = .ok (.iload_n 1, 1) := by decide +kernel
theorem dX2_tell_1 : decode cX2_tell 1 = .ok (.tableswitch 128 0 10 #[59, 64, 69, 74, 79, 84, 89, 108, 113, 118, 123], 59) := by decide +kernel
theorem dX2_tell_60 : decode cX2_tell 60 = .ok (.aload_n 0, 1) := by decide +kernel
theorem dX2_tell_61 : decode cX2_tell 61 = .ok (.getfield 9, 3) := by decide +kernel
theorem dX2_tell_64 : decode cX2_tell 64 = .ok (.ireturn, 1) := by decide +kernel
theorem dX2_tell_65 : decode cX2_tell 65 = .ok (.aload_n 0, 1) := by decide +kernel
theorem dX2_tell_66 : decode cX2_tell 66 = .ok (.getfield 15, 3) := by decide +kernel
theorem dX2_tell_69 : decode cX2_tell 69 = .ok (.ireturn, 1) := by decide +kernel
theorem dX2_tell_70 : decode cX2_tell 70 = .ok (.aload_n 0, 1) := by decide +kernel
theorem dX2_tell_71 : decode cX2_tell 71 = .ok (.getfield 18, 3) := by decide +kernel
theorem dX2_tell_74 : decode cX2_tell 74 = .ok (.ireturn, 1) := by decide +kernel
theorem dX2_tell_75 : decode cX2_tell 75 = .ok (.aload_n 0, 1) := by decide +kernel
theorem dX2_tell_76 : decode cX2_tell 76 = .ok (.getfield 21, 3) := by decide +kernel
theorem dX2_tell_79 : decode cX2_tell 79 = .ok (.ireturn, 1) := by decide +kernel
theorem dX2_tell_80 : decode cX2_tell 80 = .ok (.aload_n 0, 1) := by decide +kernel
theorem dX2_tell_81 : decode cX2_tell 81 = .ok (.getfield 24, 3) := by decide +kernel
theorem dX2_tell_84 : decode cX2_tell 84 = .ok (.ireturn, 1) := by decide +kernel
theorem dX2_tell_85 : decode cX2_tell 85 = .ok (.aload_n 0, 1) := by decide +kernel
theorem dX2_tell_86 : decode cX2_tell 86 = .ok (.getfield 27, 3) := by decide +kernel
theorem dX2_tell_89 : decode cX2_tell 89 = .ok (.ireturn, 1) := by decide +kernel
theorem dX2_tell_90 : decode cX2_tell 90 = .ok (.aload_n 0, 1) := by decide +kernel
theorem dX2_tell_91 : decode cX2_tell 91 = .ok (.getfield 27, 3) := by decide +kernel
theorem dX2_tell_94 : decode cX2_tell 94 = .ok (.bipush (-6), 2) := by decide +kernel
theorem dX2_tell_96 : decode cX2_tell 96 = .ok (.if_icmp .ne 8, 3) := by decide +kernel
theorem dX2_tell_99 : decode cX2_tell 99 = .ok (.bipush (-6), 2) := by decide +kernel
theorem dX2_tell_101 : decode cX2_tell 101 = .ok (.goto 7, 3) := by decide +kernel
theorem dX2_tell_104 : decode cX2_tell 104 = .ok (.aload_n 0, 1) := by decide +kernel
theorem dX2_tell_105 : decode cX2_tell 105 = .ok (.getfield 30, 3) := by decide +kernel
theorem dX2_tell_108 : decode cX2_tell 108 = .ok (.ireturn, 1) := by decide +kernel
theorem dX2_tell_109 : decode cX2_tell 109 = .ok (.aload_n 0, 1) := by decide +kernel
theorem dX2_tell_110 : decode cX2_tell 110 = .ok (.getfield 33, 3) := by decide +kernel
theorem dX2_tell_113 : decode cX2_tell 113 = .ok (.ireturn, 1) := by decide +kernel
theorem dX2_tell_114 : decode cX2_tell 114 = .ok (.aload_n 0, 1) := by decide +kernel
theorem dX2_tell_115 : decode cX2_tell 115 = .ok (.getfield 36, 3) := by decide +kernel
theorem dX2_tell_118 : decode cX2_tell 118 = .ok (.ireturn, 1) := by decide +kernel
theorem dX2_tell_119 : decode cX2_tell 119 = .ok (.aload_n 0, 1) := by decide +kernel
theorem dX2_tell_120 : decode cX2_tell 120 = .ok (.getfield 39, 3) := by decide +kernel
theorem dX2_tell_123 : decode cX2_tell 123 = .ok (.ireturn, 1) := by decide +kernel
theorem dX2_tell_124 : decode cX2_tell 124 = .ok (.aload_n 0, 1) := by decide +kernel
theorem dX2_tell_125 : decode cX2_tell 125 = .ok (.getfield 42, 3) := by decide +kernel
theorem dX2_tell_128 : decode cX2_tell 128 = .ok (.ireturn, 1) := by decide +kernel
theorem dX2_tell_129 : decode cX2_tell 129 = .ok (.bipush (-2), 2) := by decide +kernel
theorem dX2_tell_131 : decode cX2_tell 131 = .ok (.ireturn, 1) := by decide +kernel
theorem dX3_init_0 : decode cX3_init 0 = .ok (.aload_n 0, 1) := by decide +kernel
theorem dX3_init_1 : decode cX3_init 1 = .ok (.invokespecial 3, 3) := by decide +kernel
theorem dX3_init_4 : decode cX3_init 4 = .ok (.aload_n 0, 1) := by decide +kernel
theorem dX3_init_5 : decode cX3_init 5 = .ok (.bipush 80, 2) := by decide +kernel
theorem dX3_init_7 : decode cX3_init 7 = .ok (.newarray .char, 2) := by decide +kernel
theorem dX3_init_9 : decode cX3_init 9 = .ok (.putfield 9, 3) := by decide +kernel
theorem dX3_init_12 : decode cX3_init 12 = .ok (.aload_n 0, 1) := by decide +kernel
theorem dX3_init_13 : decode cX3_init 13 = .ok (.bipush 80, 2) := by decide +kernel
theorem dX3_init_15 : decode cX3_init 15 = .ok (.newarray .int, 2) := by decide +kernel
theorem dX3_init_17 : decode cX3_init 17 = .ok (.putfield 15, 3) := by decide +kernel
theorem dX3_init_20 : decode cX3_init 20 = .ok (.return_, 1) := by decide +kernel
theorem dX3_append_0 : decode cX3_append 0 = .ok (.aload_n 0, 1) := by decide +kernel
theorem dX3_append_1 : decode cX3_append 1 = .ok (.getfield 19, 3) := by decide +kernel
theorem dX3_append_4 : decode cX3_append 4 = .ok (.bipush 80, 2) := by decide +kernel
theorem dX3_append_6 : decode cX3_append 6 = .ok (.if_icmp .ge 23, 3) := by decide +kernel
theorem dX3_append_9 : decode cX3_append 9 = .ok (.aload_n 0, 1) := by decide +kernel
theorem dX3_append_10 : decode cX3_append 10 = .ok (.getfield 9, 3) := by decide +kernel
theorem dX3_append_13 : decode cX3_append 13 = .ok (.aload_n 0, 1) := by decide +kernel
theorem dX3_append_14 : decode cX3_append 14 = .ok (.getfield 19, 3) := by decide +kernel
theorem dX3_append_17 : decode cX3_append 17 = .ok (.iload_n 1, 1) := by decide +kernel
theorem dX3_append_18 : decode cX3_append 18 = .ok (.castore, 1) := by decide +kernel
theorem dX3_append_19 : decode cX3_append 19 = .ok (.aload_n 0, 1) := by decide +kernel
theorem dX3_append_20 : decode cX3_append 20 = .ok (.dup, 1) := by decide +kernel
theorem dX3_append_21 : decode cX3_append 21 = .ok (.getfield 19, 3) := by decide +kernel
theorem dX3_append_24 : decode cX3_append 24 = .ok (.iconst 1, 1) := by decide +kernel
theorem dX3_append_25 : decode cX3_append 25 = .ok (.iadd, 1) := by decide +kernel
theorem dX3_append_26 : decode cX3_append 26 = .ok (.putfield 19, 3) := by decide +kernel
theorem dX3_append_29 : decode cX3_append 29 = .ok (.return_, 1) := by decide +kernel
theorem dX3_clear_0 : decode cX3_clear 0 = .ok (.aload_n 0, 1) := by decide +kernel
theorem dX3_clear_1 : decode cX3_clear 1 = .ok (.iconst 0, 1) := by decide +kernel
theorem dX3_clear_2 : decode cX3_clear 2 = .ok (.putfield 19, 3) := by decide +kernel
theorem dX3_clear_5 : decode cX3_clear 5 = .ok (.return_, 1) := by decide +kernel
theorem dX3_rewind_0 : decode cX3_rewind 0 = .ok (.aload_n 0, 1) := by decide +kernel
theorem dX3_rewind_1 : decode cX3_rewind 1 = .ok (.iconst 0, 1) := by decide +kernel
theorem dX3_rewind_2 : decode cX3_rewind 2 = .ok (.putfield 23, 3) := by decide +kernel
theorem dX3_rewind_5 : decode cX3_rewind 5 = .ok (.return_, 1) := by decide +kernel
theorem dX3_firstFault_0 : decode cX3_firstFault 0 = .ok (.aload_n 0, 1) := by decide +kernel
theorem dX3_firstFault_1 : decode cX3_firstFault 1 = .ok (.invokevirtual 26, 3) := by decide +kernel
theorem dX3_firstFault_4 : decode cX3_firstFault 4 = .ok (.iconst 0, 1) := by decide +kernel
theorem dX3_firstFault_5 : decode cX3_firstFault 5 = .ok (.istore_n 1, 1) := by decide +kernel
theorem dX3_firstFault_6 : decode cX3_firstFault 6 = .ok (.iload_n 1, 1) := by decide +kernel
theorem dX3_firstFault_7 : decode cX3_firstFault 7 = .ok (.bipush 80, 2) := by decide +kernel
theorem dX3_firstFault_9 : decode cX3_firstFault 9 = .ok (.if_icmp .ge 49, 3) := by decide +kernel
theorem dX3_firstFault_12 : decode cX3_firstFault 12 = .ok (.aload_n 0, 1) := by decide +kernel
theorem dX3_firstFault_13 : decode cX3_firstFault 13 = .ok (.invokevirtual 29, 3) := by decide +kernel
theorem dX3_firstFault_16 : decode cX3_firstFault 16 = .ok (.ifCond .ne 8, 3) := by decide +kernel
theorem dX3_firstFault_19 : decode cX3_firstFault 19 = .ok (.aload_n 0, 1) := by decide +kernel
theorem dX3_firstFault_20 : decode cX3_firstFault 20 = .ok (.getfield 23, 3) := by decide +kernel
theorem dX3_firstFault_23 : decode cX3_firstFault 23 = .ok (.ireturn, 1) := by decide +kernel
theorem dX3_firstFault_24 : decode cX3_firstFault 24 = .ok (.aload_n 0, 1) := by decide +kernel
theorem dX3_firstFault_25 : decode cX3_firstFault 25 = .ok (.getfield 23, 3) := by decide +kernel
theorem dX3_firstFault_28 : decode cX3_firstFault 28 = .ok (.aload_n 0, 1) := by decide +kernel
theorem dX3_firstFault_29 : decode cX3_firstFault 29 = .ok (.getfield 19, 3) := by decide +kernel
theorem dX3_firstFault_32 : decode cX3_firstFault 32 = .ok (.if_icmp .lt 6, 3) := by decide +kernel
theorem dX3_firstFault_35 : decode cX3_firstFault 35 = .ok (.bipush (-6), 2) := by decide +kernel
theorem dX3_firstFault_37 : decode cX3_firstFault 37 = .ok (.ireturn, 1) := by decide +kernel
theorem dX3_firstFault_38 : decode cX3_firstFault 38 = .ok (.aload_n 0, 1) := by decide +kernel
theorem dX3_firstFault_39 : decode cX3_firstFault 39 = .ok (.bipush 59, 2) := by decide +kernel
theorem dX3_firstFault_41 : decode cX3_firstFault 41 = .ok (.invokevirtual 33, 3) := by decide +kernel
theorem dX3_firstFault_44 : decode cX3_firstFault 44 = .ok (.ifCond .ne 8, 3) := by decide +kernel
theorem dX3_firstFault_47 : decode cX3_firstFault 47 = .ok (.aload_n 0, 1) := by decide +kernel
theorem dX3_firstFault_48 : decode cX3_firstFault 48 = .ok (.getfield 23, 3) := by decide +kernel
theorem dX3_firstFault_51 : decode cX3_firstFault 51 = .ok (.ireturn, 1) := by decide +kernel
theorem dX3_firstFault_52 : decode cX3_firstFault 52 = .ok (.iinc 1 1, 3) := by decide +kernel
theorem dX3_firstFault_55 : decode cX3_firstFault 55 = .ok (.goto (-49), 3) := by decide +kernel
theorem dX3_firstFault_58 : decode cX3_firstFault 58 = .ok (.aload_n 0, 1) := by decide +kernel
theorem dX3_firstFault_59 : decode cX3_firstFault 59 = .ok (.getfield 23, 3) := by decide +kernel
theorem dX3_firstFault_62 : decode cX3_firstFault 62 = .ok (.ireturn, 1) := by decide +kernel
theorem dX3_readNextOrder_0 : decode cX3_readNextOrder 0 = .ok (.aload_n 0, 1) := by decide +kernel
theorem dX3_readNextOrder_1 : decode cX3_readNextOrder 1 = .ok (.getfield 23, 3) := by decide +kernel
theorem dX3_readNextOrder_4 : decode cX3_readNextOrder 4 = .ok (.ifCond .eq 12, 3) := by decide +kernel
theorem dX3_readNextOrder_7 : decode cX3_readNextOrder 7 = .ok (.aload_n 0, 1) := by decide +kernel
theorem dX3_readNextOrder_8 : decode cX3_readNextOrder 8 = .ok (.bipush 59, 2) := by decide +kernel
theorem dX3_readNextOrder_10 : decode cX3_readNextOrder 10 = .ok (.invokevirtual 33, 3) := by decide +kernel
theorem dX3_readNextOrder_13 : decode cX3_readNextOrder 13 = .ok (.ifCond .eq 14, 3) := by decide +kernel
theorem dX3_readNextOrder_16 : decode cX3_readNextOrder 16 = .ok (.aload_n 0, 1) := by decide +kernel
theorem dX3_readNextOrder_17 : decode cX3_readNextOrder 17 = .ok (.invokevirtual 29, 3) := by decide +kernel
theorem dX3_readNextOrder_20 : decode cX3_readNextOrder 20 = .ok (.ifCond .eq 7, 3) := by decide +kernel
theorem dX3_readNextOrder_23 : decode cX3_readNextOrder 23 = .ok (.iconst 1, 1) := by decide +kernel
theorem dX3_readNextOrder_24 : decode cX3_readNextOrder 24 = .ok (.goto 4, 3) := by decide +kernel
theorem dX3_readNextOrder_27 : decode cX3_readNextOrder 27 = .ok (.iconst 0, 1) := by decide +kernel
theorem dX3_readNextOrder_28 : decode cX3_readNextOrder 28 = .ok (.ireturn, 1) := by decide +kernel
theorem dX3_readOrder_0 : decode cX3_readOrder 0 = .ok (.aload_n 0, 1) := by decide +kernel
theorem dX3_readOrder_1 : decode cX3_readOrder 1 = .ok (.iconst 0, 1) := by decide +kernel
theorem dX3_readOrder_2 : decode cX3_readOrder 2 = .ok (.putfield 37, 3) := by decide +kernel
theorem dX3_readOrder_5 : decode cX3_readOrder 5 = .ok (.aload_n 0, 1) := by decide +kernel
theorem dX3_readOrder_6 : decode cX3_readOrder 6 = .ok (.aload_n 0, 1) := by decide +kernel
theorem dX3_readOrder_7 : decode cX3_readOrder 7 = .ok (.invokevirtual 40, 3) := by decide +kernel
theorem dX3_readOrder_10 : decode cX3_readOrder 10 = .ok (.putfield 44, 3) := by decide +kernel
theorem dX3_readOrder_13 : decode cX3_readOrder 13 = .ok (.aload_n 0, 1) := by decide +kernel
theorem dX3_readOrder_14 : decode cX3_readOrder 14 = .ok (.getfield 44, 3) := by decide +kernel
theorem dX3_readOrder_17 : decode cX3_readOrder 17 = .ok (.lookupswitch 170 #[(99, 88), (109, 110), (116, 148), (119, 43)], 43) := by decide +kernel
theorem dX3_readOrder_60 : decode cX3_readOrder 60 = .ok (.aload_n 0, 1) := by decide +kernel
theorem dX3_readOrder_61 : decode cX3_readOrder 61 = .ok (.bipush 119, 2) := by decide +kernel
theorem dX3_readOrder_63 : decode cX3_readOrder 63 = .ok (.invokevirtual 33, 3) := by decide +kernel
theorem dX3_readOrder_66 : decode cX3_readOrder 66 = .ok (.ifCond .eq 37, 3) := by decide +kernel
theorem dX3_readOrder_69 : decode cX3_readOrder 69 = .ok (.aload_n 0, 1) := by decide +kernel
theorem dX3_readOrder_70 : decode cX3_readOrder 70 = .ok (.invokevirtual 47, 3) := by decide +kernel
theorem dX3_readOrder_73 : decode cX3_readOrder 73 = .ok (.ifCond .eq 30, 3) := by decide +kernel
theorem dX3_readOrder_76 : decode cX3_readOrder 76 = .ok (.aload_n 0, 1) := by decide +kernel
theorem dX3_readOrder_77 : decode cX3_readOrder 77 = .ok (.bipush 47, 2) := by decide +kernel
theorem dX3_readOrder_79 : decode cX3_readOrder 79 = .ok (.invokevirtual 33, 3) := by decide +kernel
theorem dX3_readOrder_82 : decode cX3_readOrder 82 = .ok (.ifCond .eq 21, 3) := by decide +kernel
theorem dX3_readOrder_85 : decode cX3_readOrder 85 = .ok (.aload_n 0, 1) := by decide +kernel
theorem dX3_readOrder_86 : decode cX3_readOrder 86 = .ok (.invokevirtual 47, 3) := by decide +kernel
theorem dX3_readOrder_89 : decode cX3_readOrder 89 = .ok (.ifCond .eq 14, 3) := by decide +kernel
theorem dX3_readOrder_92 : decode cX3_readOrder 92 = .ok (.aload_n 0, 1) := by decide +kernel
theorem dX3_readOrder_93 : decode cX3_readOrder 93 = .ok (.invokevirtual 50, 3) := by decide +kernel
theorem dX3_readOrder_96 : decode cX3_readOrder 96 = .ok (.ifCond .eq 7, 3) := by decide +kernel
theorem dX3_readOrder_99 : decode cX3_readOrder 99 = .ok (.iconst 1, 1) := by decide +kernel
theorem dX3_readOrder_100 : decode cX3_readOrder 100 = .ok (.goto 4, 3) := by decide +kernel
theorem dX3_readOrder_103 : decode cX3_readOrder 103 = .ok (.iconst 0, 1) := by decide +kernel
theorem dX3_readOrder_104 : decode cX3_readOrder 104 = .ok (.ireturn, 1) := by decide +kernel
theorem dX3_readOrder_105 : decode cX3_readOrder 105 = .ok (.aload_n 0, 1) := by decide +kernel
theorem dX3_readOrder_106 : decode cX3_readOrder 106 = .ok (.bipush 99, 2) := by decide +kernel
theorem dX3_readOrder_108 : decode cX3_readOrder 108 = .ok (.invokevirtual 33, 3) := by decide +kernel
theorem dX3_readOrder_111 : decode cX3_readOrder 111 = .ok (.ifCond .eq 14, 3) := by decide +kernel
theorem dX3_readOrder_114 : decode cX3_readOrder 114 = .ok (.aload_n 0, 1) := by decide +kernel
theorem dX3_readOrder_115 : decode cX3_readOrder 115 = .ok (.invokevirtual 47, 3) := by decide +kernel
theorem dX3_readOrder_118 : decode cX3_readOrder 118 = .ok (.ifCond .eq 7, 3) := by decide +kernel
theorem dX3_readOrder_121 : decode cX3_readOrder 121 = .ok (.iconst 1, 1) := by decide +kernel
theorem dX3_readOrder_122 : decode cX3_readOrder 122 = .ok (.goto 4, 3) := by decide +kernel
theorem dX3_readOrder_125 : decode cX3_readOrder 125 = .ok (.iconst 0, 1) := by decide +kernel
theorem dX3_readOrder_126 : decode cX3_readOrder 126 = .ok (.ireturn, 1) := by decide +kernel
theorem dX3_readOrder_127 : decode cX3_readOrder 127 = .ok (.aload_n 0, 1) := by decide +kernel
theorem dX3_readOrder_128 : decode cX3_readOrder 128 = .ok (.bipush 109, 2) := by decide +kernel
theorem dX3_readOrder_130 : decode cX3_readOrder 130 = .ok (.invokevirtual 33, 3) := by decide +kernel
theorem dX3_readOrder_133 : decode cX3_readOrder 133 = .ok (.ifCond .eq 30, 3) := by decide +kernel
theorem dX3_readOrder_136 : decode cX3_readOrder 136 = .ok (.aload_n 0, 1) := by decide +kernel
theorem dX3_readOrder_137 : decode cX3_readOrder 137 = .ok (.invokevirtual 47, 3) := by decide +kernel
theorem dX3_readOrder_140 : decode cX3_readOrder 140 = .ok (.ifCond .eq 23, 3) := by decide +kernel
theorem dX3_readOrder_143 : decode cX3_readOrder 143 = .ok (.aload_n 0, 1) := by decide +kernel
theorem dX3_readOrder_144 : decode cX3_readOrder 144 = .ok (.bipush 61, 2) := by decide +kernel
theorem dX3_readOrder_146 : decode cX3_readOrder 146 = .ok (.invokevirtual 33, 3) := by decide +kernel
theorem dX3_readOrder_149 : decode cX3_readOrder 149 = .ok (.ifCond .eq 14, 3) := by decide +kernel
theorem dX3_readOrder_152 : decode cX3_readOrder 152 = .ok (.aload_n 0, 1) := by decide +kernel
theorem dX3_readOrder_153 : decode cX3_readOrder 153 = .ok (.invokevirtual 53, 3) := by decide +kernel
theorem dX3_readOrder_156 : decode cX3_readOrder 156 = .ok (.ifCond .eq 7, 3) := by decide +kernel
theorem dX3_readOrder_159 : decode cX3_readOrder 159 = .ok (.iconst 1, 1) := by decide +kernel
theorem dX3_readOrder_160 : decode cX3_readOrder 160 = .ok (.goto 4, 3) := by decide +kernel
theorem dX3_readOrder_163 : decode cX3_readOrder 163 = .ok (.iconst 0, 1) := by decide +kernel
theorem dX3_readOrder_164 : decode cX3_readOrder 164 = .ok (.ireturn, 1) := by decide +kernel
theorem dX3_readOrder_165 : decode cX3_readOrder 165 = .ok (.aload_n 0, 1) := by decide +kernel
theorem dX3_readOrder_166 : decode cX3_readOrder 166 = .ok (.bipush 116, 2) := by decide +kernel
theorem dX3_readOrder_168 : decode cX3_readOrder 168 = .ok (.invokevirtual 33, 3) := by decide +kernel
theorem dX3_readOrder_171 : decode cX3_readOrder 171 = .ok (.ifCond .eq 14, 3) := by decide +kernel
theorem dX3_readOrder_174 : decode cX3_readOrder 174 = .ok (.aload_n 0, 1) := by decide +kernel
theorem dX3_readOrder_175 : decode cX3_readOrder 175 = .ok (.invokevirtual 47, 3) := by decide +kernel
theorem dX3_readOrder_178 : decode cX3_readOrder 178 = .ok (.ifCond .eq 7, 3) := by decide +kernel
theorem dX3_readOrder_181 : decode cX3_readOrder 181 = .ok (.iconst 1, 1) := by decide +kernel
theorem dX3_readOrder_182 : decode cX3_readOrder 182 = .ok (.goto 4, 3) := by decide +kernel
theorem dX3_readOrder_185 : decode cX3_readOrder 185 = .ok (.iconst 0, 1) := by decide +kernel
theorem dX3_readOrder_186 : decode cX3_readOrder 186 = .ok (.ireturn, 1) := by decide +kernel
theorem dX3_readOrder_187 : decode cX3_readOrder 187 = .ok (.iconst 0, 1) := by decide +kernel
theorem dX3_readOrder_188 : decode cX3_readOrder 188 = .ok (.ireturn, 1) := by decide +kernel
theorem dX3_readGoals_0 : decode cX3_readGoals 0 = .ok (.iconst 0, 1) := by decide +kernel
theorem dX3_readGoals_1 : decode cX3_readGoals 1 = .ok (.istore_n 1, 1) := by decide +kernel
theorem dX3_readGoals_2 : decode cX3_readGoals 2 = .ok (.iload_n 1, 1) := by decide +kernel
theorem dX3_readGoals_3 : decode cX3_readGoals 3 = .ok (.bipush 80, 2) := by decide +kernel
theorem dX3_readGoals_5 : decode cX3_readGoals 5 = .ok (.if_icmp .ge 72, 3) := by decide +kernel
theorem dX3_readGoals_8 : decode cX3_readGoals 8 = .ok (.aload_n 0, 1) := by decide +kernel
theorem dX3_readGoals_9 : decode cX3_readGoals 9 = .ok (.invokevirtual 40, 3) := by decide +kernel
theorem dX3_readGoals_12 : decode cX3_readGoals 12 = .ok (.bipush 62, 2) := by decide +kernel
theorem dX3_readGoals_14 : decode cX3_readGoals 14 = .ok (.if_icmp .ne 63, 3) := by decide +kernel
theorem dX3_readGoals_17 : decode cX3_readGoals 17 = .ok (.aload_n 0, 1) := by decide +kernel
theorem dX3_readGoals_18 : decode cX3_readGoals 18 = .ok (.dup, 1) := by decide +kernel
theorem dX3_readGoals_19 : decode cX3_readGoals 19 = .ok (.getfield 23, 3) := by decide +kernel
theorem dX3_readGoals_22 : decode cX3_readGoals 22 = .ok (.iconst 1, 1) := by decide +kernel
theorem dX3_readGoals_23 : decode cX3_readGoals 23 = .ok (.iadd, 1) := by decide +kernel
theorem dX3_readGoals_24 : decode cX3_readGoals 24 = .ok (.putfield 23, 3) := by decide +kernel
theorem dX3_readGoals_27 : decode cX3_readGoals 27 = .ok (.aload_n 0, 1) := by decide +kernel
theorem dX3_readGoals_28 : decode cX3_readGoals 28 = .ok (.invokevirtual 47, 3) := by decide +kernel
theorem dX3_readGoals_31 : decode cX3_readGoals 31 = .ok (.ifCond .ne 5, 3) := by decide +kernel
theorem dX3_readGoals_34 : decode cX3_readGoals 34 = .ok (.iconst 0, 1) := by decide +kernel
theorem dX3_readGoals_35 : decode cX3_readGoals 35 = .ok (.ireturn, 1) := by decide +kernel
theorem dX3_readGoals_36 : decode cX3_readGoals 36 = .ok (.aload_n 0, 1) := by decide +kernel
theorem dX3_readGoals_37 : decode cX3_readGoals 37 = .ok (.invokevirtual 40, 3) := by decide +kernel
theorem dX3_readGoals_40 : decode cX3_readGoals 40 = .ok (.bipush 42, 2) := by decide +kernel
theorem dX3_readGoals_42 : decode cX3_readGoals 42 = .ok (.if_icmp .eq 11, 3) := by decide +kernel
theorem dX3_readGoals_45 : decode cX3_readGoals 45 = .ok (.aload_n 0, 1) := by decide +kernel
theorem dX3_readGoals_46 : decode cX3_readGoals 46 = .ok (.iconst 0, 1) := by decide +kernel
theorem dX3_readGoals_47 : decode cX3_readGoals 47 = .ok (.invokevirtual 56, 3) := by decide +kernel
theorem dX3_readGoals_50 : decode cX3_readGoals 50 = .ok (.goto 21, 3) := by decide +kernel
theorem dX3_readGoals_53 : decode cX3_readGoals 53 = .ok (.aload_n 0, 1) := by decide +kernel
theorem dX3_readGoals_54 : decode cX3_readGoals 54 = .ok (.bipush 42, 2) := by decide +kernel
theorem dX3_readGoals_56 : decode cX3_readGoals 56 = .ok (.invokevirtual 33, 3) := by decide +kernel
theorem dX3_readGoals_59 : decode cX3_readGoals 59 = .ok (.ifCond .eq 10, 3) := by decide +kernel
theorem dX3_readGoals_62 : decode cX3_readGoals 62 = .ok (.aload_n 0, 1) := by decide +kernel
theorem dX3_readGoals_63 : decode cX3_readGoals 63 = .ok (.invokevirtual 47, 3) := by decide +kernel
theorem dX3_readGoals_66 : decode cX3_readGoals 66 = .ok (.ifCond .ne 5, 3) := by decide +kernel
theorem dX3_readGoals_69 : decode cX3_readGoals 69 = .ok (.iconst 0, 1) := by decide +kernel
theorem dX3_readGoals_70 : decode cX3_readGoals 70 = .ok (.ireturn, 1) := by decide +kernel
theorem dX3_readGoals_71 : decode cX3_readGoals 71 = .ok (.iinc 1 1, 3) := by decide +kernel
theorem dX3_readGoals_74 : decode cX3_readGoals 74 = .ok (.goto (-72), 3) := by decide +kernel
theorem dX3_readGoals_77 : decode cX3_readGoals 77 = .ok (.iconst 1, 1) := by decide +kernel
theorem dX3_readGoals_78 : decode cX3_readGoals 78 = .ok (.ireturn, 1) := by decide +kernel
theorem dX3_readMode_0 : decode cX3_readMode 0 = .ok (.aload_n 0, 1) := by decide +kernel
theorem dX3_readMode_1 : decode cX3_readMode 1 = .ok (.invokevirtual 40, 3) := by decide +kernel
theorem dX3_readMode_4 : decode cX3_readMode 4 = .ok (.istore_n 1, 1) := by decide +kernel
theorem dX3_readMode_5 : decode cX3_readMode 5 = .ok (.iload_n 1, 1) := by decide +kernel
theorem dX3_readMode_6 : decode cX3_readMode 6 = .ok (.bipush 48, 2) := by decide +kernel
theorem dX3_readMode_8 : decode cX3_readMode 8 = .ok (.if_icmp .lt 9, 3) := by decide +kernel
theorem dX3_readMode_11 : decode cX3_readMode 11 = .ok (.iload_n 1, 1) := by decide +kernel
theorem dX3_readMode_12 : decode cX3_readMode 12 = .ok (.bipush 50, 2) := by decide +kernel
theorem dX3_readMode_14 : decode cX3_readMode 14 = .ok (.if_icmp .le 5, 3) := by decide +kernel
theorem dX3_readMode_17 : decode cX3_readMode 17 = .ok (.iconst 0, 1) := by decide +kernel
theorem dX3_readMode_18 : decode cX3_readMode 18 = .ok (.ireturn, 1) := by decide +kernel
theorem dX3_readMode_19 : decode cX3_readMode 19 = .ok (.aload_n 0, 1) := by decide +kernel
theorem dX3_readMode_20 : decode cX3_readMode 20 = .ok (.iload_n 1, 1) := by decide +kernel
theorem dX3_readMode_21 : decode cX3_readMode 21 = .ok (.bipush 48, 2) := by decide +kernel
theorem dX3_readMode_23 : decode cX3_readMode 23 = .ok (.isub, 1) := by decide +kernel
theorem dX3_readMode_24 : decode cX3_readMode 24 = .ok (.invokevirtual 56, 3) := by decide +kernel
theorem dX3_readMode_27 : decode cX3_readMode 27 = .ok (.aload_n 0, 1) := by decide +kernel
theorem dX3_readMode_28 : decode cX3_readMode 28 = .ok (.dup, 1) := by decide +kernel
theorem dX3_readMode_29 : decode cX3_readMode 29 = .ok (.getfield 23, 3) := by decide +kernel
theorem dX3_readMode_32 : decode cX3_readMode 32 = .ok (.iconst 1, 1) := by decide +kernel
theorem dX3_readMode_33 : decode cX3_readMode 33 = .ok (.iadd, 1) := by decide +kernel
theorem dX3_readMode_34 : decode cX3_readMode 34 = .ok (.putfield 23, 3) := by decide +kernel
theorem dX3_readMode_37 : decode cX3_readMode 37 = .ok (.iconst 1, 1) := by decide +kernel
theorem dX3_readMode_38 : decode cX3_readMode 38 = .ok (.ireturn, 1) := by decide +kernel
theorem dX3_readNumber_0 : decode cX3_readNumber 0 = .ok (.aload_n 0, 1) := by decide +kernel
theorem dX3_readNumber_1 : decode cX3_readNumber 1 = .ok (.invokevirtual 40, 3) := by decide +kernel
theorem dX3_readNumber_4 : decode cX3_readNumber 4 = .ok (.invokestatic 60, 3) := by decide +kernel
theorem dX3_readNumber_7 : decode cX3_readNumber 7 = .ok (.ifCond .ne 5, 3) := by decide +kernel
theorem dX3_readNumber_10 : decode cX3_readNumber 10 = .ok (.iconst 0, 1) := by decide +kernel
theorem dX3_readNumber_11 : decode cX3_readNumber 11 = .ok (.ireturn, 1) := by decide +kernel
theorem dX3_readNumber_12 : decode cX3_readNumber 12 = .ok (.aload_n 0, 1) := by decide +kernel
theorem dX3_readNumber_13 : decode cX3_readNumber 13 = .ok (.invokevirtual 40, 3) := by decide +kernel
theorem dX3_readNumber_16 : decode cX3_readNumber 16 = .ok (.bipush 48, 2) := by decide +kernel
theorem dX3_readNumber_18 : decode cX3_readNumber 18 = .ok (.if_icmp .ne 7, 3) := by decide +kernel
theorem dX3_readNumber_21 : decode cX3_readNumber 21 = .ok (.iconst 1, 1) := by decide +kernel
theorem dX3_readNumber_22 : decode cX3_readNumber 22 = .ok (.goto 4, 3) := by decide +kernel
theorem dX3_readNumber_25 : decode cX3_readNumber 25 = .ok (.iconst 3, 1) := by decide +kernel
theorem dX3_readNumber_26 : decode cX3_readNumber 26 = .ok (.istore_n 1, 1) := by decide +kernel
theorem dX3_readNumber_27 : decode cX3_readNumber 27 = .ok (.iconst 0, 1) := by decide +kernel
theorem dX3_readNumber_28 : decode cX3_readNumber 28 = .ok (.istore_n 2, 1) := by decide +kernel
theorem dX3_readNumber_29 : decode cX3_readNumber 29 = .ok (.iconst 0, 1) := by decide +kernel
theorem dX3_readNumber_30 : decode cX3_readNumber 30 = .ok (.istore_n 3, 1) := by decide +kernel
theorem dX3_readNumber_31 : decode cX3_readNumber 31 = .ok (.iload_n 3, 1) := by decide +kernel
theorem dX3_readNumber_32 : decode cX3_readNumber 32 = .ok (.iload_n 1, 1) := by decide +kernel
theorem dX3_readNumber_33 : decode cX3_readNumber 33 = .ok (.if_icmp .ge 42, 3) := by decide +kernel
theorem dX3_readNumber_36 : decode cX3_readNumber 36 = .ok (.aload_n 0, 1) := by decide +kernel
theorem dX3_readNumber_37 : decode cX3_readNumber 37 = .ok (.invokevirtual 40, 3) := by decide +kernel
theorem dX3_readNumber_40 : decode cX3_readNumber 40 = .ok (.invokestatic 60, 3) := by decide +kernel
theorem dX3_readNumber_43 : decode cX3_readNumber 43 = .ok (.ifCond .eq 32, 3) := by decide +kernel
theorem dX3_readNumber_46 : decode cX3_readNumber 46 = .ok (.bipush 10, 2) := by decide +kernel
theorem dX3_readNumber_48 : decode cX3_readNumber 48 = .ok (.iload_n 2, 1) := by decide +kernel
theorem dX3_readNumber_49 : decode cX3_readNumber 49 = .ok (.imul, 1) := by decide +kernel
theorem dX3_readNumber_50 : decode cX3_readNumber 50 = .ok (.aload_n 0, 1) := by decide +kernel
theorem dX3_readNumber_51 : decode cX3_readNumber 51 = .ok (.invokevirtual 40, 3) := by decide +kernel
theorem dX3_readNumber_54 : decode cX3_readNumber 54 = .ok (.bipush 48, 2) := by decide +kernel
theorem dX3_readNumber_56 : decode cX3_readNumber 56 = .ok (.isub, 1) := by decide +kernel
theorem dX3_readNumber_57 : decode cX3_readNumber 57 = .ok (.iadd, 1) := by decide +kernel
theorem dX3_readNumber_58 : decode cX3_readNumber 58 = .ok (.istore_n 2, 1) := by decide +kernel
theorem dX3_readNumber_59 : decode cX3_readNumber 59 = .ok (.aload_n 0, 1) := by decide +kernel
theorem dX3_readNumber_60 : decode cX3_readNumber 60 = .ok (.dup, 1) := by decide +kernel
theorem dX3_readNumber_61 : decode cX3_readNumber 61 = .ok (.getfield 23, 3) := by decide +kernel
theorem dX3_readNumber_64 : decode cX3_readNumber 64 = .ok (.iconst 1, 1) := by decide +kernel
theorem dX3_readNumber_65 : decode cX3_readNumber 65 = .ok (.iadd, 1) := by decide +kernel
theorem dX3_readNumber_66 : decode cX3_readNumber 66 = .ok (.putfield 23, 3) := by decide +kernel
theorem dX3_readNumber_69 : decode cX3_readNumber 69 = .ok (.iinc 3 1, 3) := by decide +kernel
theorem dX3_readNumber_72 : decode cX3_readNumber 72 = .ok (.goto (-41), 3) := by decide +kernel
theorem dX3_readNumber_75 : decode cX3_readNumber 75 = .ok (.aload_n 0, 1) := by decide +kernel
theorem dX3_readNumber_76 : decode cX3_readNumber 76 = .ok (.iload_n 2, 1) := by decide +kernel
theorem dX3_readNumber_77 : decode cX3_readNumber 77 = .ok (.invokevirtual 56, 3) := by decide +kernel
theorem dX3_readNumber_80 : decode cX3_readNumber 80 = .ok (.iconst 1, 1) := by decide +kernel
theorem dX3_readNumber_81 : decode cX3_readNumber 81 = .ok (.ireturn, 1) := by decide +kernel
theorem dX3_readSign_0 : decode cX3_readSign 0 = .ok (.aload_n 0, 1) := by decide +kernel
theorem dX3_readSign_1 : decode cX3_readSign 1 = .ok (.invokevirtual 40, 3) := by decide +kernel
theorem dX3_readSign_4 : decode cX3_readSign 4 = .ok (.iload_n 1, 1) := by decide +kernel
theorem dX3_readSign_5 : decode cX3_readSign 5 = .ok (.if_icmp .eq 5, 3) := by decide +kernel
theorem dX3_readSign_8 : decode cX3_readSign 8 = .ok (.iconst 0, 1) := by decide +kernel
theorem dX3_readSign_9 : decode cX3_readSign 9 = .ok (.ireturn, 1) := by decide +kernel
theorem dX3_readSign_10 : decode cX3_readSign 10 = .ok (.aload_n 0, 1) := by decide +kernel
theorem dX3_readSign_11 : decode cX3_readSign 11 = .ok (.dup, 1) := by decide +kernel
theorem dX3_readSign_12 : decode cX3_readSign 12 = .ok (.getfield 23, 3) := by decide +kernel
theorem dX3_readSign_15 : decode cX3_readSign 15 = .ok (.iconst 1, 1) := by decide +kernel
theorem dX3_readSign_16 : decode cX3_readSign 16 = .ok (.iadd, 1) := by decide +kernel
theorem dX3_readSign_17 : decode cX3_readSign 17 = .ok (.putfield 23, 3) := by decide +kernel
theorem dX3_readSign_20 : decode cX3_readSign 20 = .ok (.iconst 1, 1) := by decide +kernel
theorem dX3_readSign_21 : decode cX3_readSign 21 = .ok (.ireturn, 1) := by decide +kernel
theorem dX3_keepNumber_0 : decode cX3_keepNumber 0 = .ok (.aload_n 0, 1) := by decide +kernel
theorem dX3_keepNumber_1 : decode cX3_keepNumber 1 = .ok (.getfield 37, 3) := by decide +kernel
theorem dX3_keepNumber_4 : decode cX3_keepNumber 4 = .ok (.bipush 80, 2) := by decide +kernel
theorem dX3_keepNumber_6 : decode cX3_keepNumber 6 = .ok (.if_icmp .ge 23, 3) := by decide +kernel
theorem dX3_keepNumber_9 : decode cX3_keepNumber 9 = .ok (.aload_n 0, 1) := by decide +kernel
theorem dX3_keepNumber_10 : decode cX3_keepNumber 10 = .ok (.getfield 15, 3) := by decide +kernel
theorem dX3_keepNumber_13 : decode cX3_keepNumber 13 = .ok (.aload_n 0, 1) := by decide +kernel
theorem dX3_keepNumber_14 : decode cX3_keepNumber 14 = .ok (.getfield 37, 3) := by decide +kernel
theorem dX3_keepNumber_17 : decode cX3_keepNumber 17 = .ok (.iload_n 1, 1) := by decide +kernel
theorem dX3_keepNumber_18 : decode cX3_keepNumber 18 = .ok (.iastore, 1) := by decide +kernel
theorem dX3_keepNumber_19 : decode cX3_keepNumber 19 = .ok (.aload_n 0, 1) := by decide +kernel
theorem dX3_keepNumber_20 : decode cX3_keepNumber 20 = .ok (.dup, 1) := by decide +kernel
theorem dX3_keepNumber_21 : decode cX3_keepNumber 21 = .ok (.getfield 37, 3) := by decide +kernel
theorem dX3_keepNumber_24 : decode cX3_keepNumber 24 = .ok (.iconst 1, 1) := by decide +kernel
theorem dX3_keepNumber_25 : decode cX3_keepNumber 25 = .ok (.iadd, 1) := by decide +kernel
theorem dX3_keepNumber_26 : decode cX3_keepNumber 26 = .ok (.putfield 37, 3) := by decide +kernel
theorem dX3_keepNumber_29 : decode cX3_keepNumber 29 = .ok (.return_, 1) := by decide +kernel
theorem dX3_sign_0 : decode cX3_sign 0 = .ok (.aload_n 0, 1) := by decide +kernel
theorem dX3_sign_1 : decode cX3_sign 1 = .ok (.getfield 23, 3) := by decide +kernel
theorem dX3_sign_4 : decode cX3_sign 4 = .ok (.aload_n 0, 1) := by decide +kernel
theorem dX3_sign_5 : decode cX3_sign 5 = .ok (.getfield 19, 3) := by decide +kernel
theorem dX3_sign_8 : decode cX3_sign 8 = .ok (.if_icmp .ge 24, 3) := by decide +kernel
theorem dX3_sign_11 : decode cX3_sign 11 = .ok (.aload_n 0, 1) := by decide +kernel
theorem dX3_sign_12 : decode cX3_sign 12 = .ok (.getfield 23, 3) := by decide +kernel
theorem dX3_sign_15 : decode cX3_sign 15 = .ok (.bipush 80, 2) := by decide +kernel
theorem dX3_sign_17 : decode cX3_sign 17 = .ok (.if_icmp .ge 15, 3) := by decide +kernel
theorem dX3_sign_20 : decode cX3_sign 20 = .ok (.aload_n 0, 1) := by decide +kernel
theorem dX3_sign_21 : decode cX3_sign 21 = .ok (.getfield 9, 3) := by decide +kernel
theorem dX3_sign_24 : decode cX3_sign 24 = .ok (.aload_n 0, 1) := by decide +kernel
theorem dX3_sign_25 : decode cX3_sign 25 = .ok (.getfield 23, 3) := by decide +kernel
theorem dX3_sign_28 : decode cX3_sign 28 = .ok (.caload, 1) := by decide +kernel
theorem dX3_sign_29 : decode cX3_sign 29 = .ok (.goto 4, 3) := by decide +kernel
theorem dX3_sign_32 : decode cX3_sign 32 = .ok (.iconst 0, 1) := by decide +kernel
theorem dX3_sign_33 : decode cX3_sign 33 = .ok (.ireturn, 1) := by decide +kernel
theorem dX3_isDigit_0 : decode cX3_isDigit 0 = .ok (.iload_n 0, 1) := by decide +kernel
theorem dX3_isDigit_1 : decode cX3_isDigit 1 = .ok (.bipush 48, 2) := by decide +kernel
theorem dX3_isDigit_3 : decode cX3_isDigit 3 = .ok (.if_icmp .lt 13, 3) := by decide +kernel
theorem dX3_isDigit_6 : decode cX3_isDigit 6 = .ok (.iload_n 0, 1) := by decide +kernel
theorem dX3_isDigit_7 : decode cX3_isDigit 7 = .ok (.bipush 57, 2) := by decide +kernel
theorem dX3_isDigit_9 : decode cX3_isDigit 9 = .ok (.if_icmp .gt 7, 3) := by decide +kernel
theorem dX3_isDigit_12 : decode cX3_isDigit 12 = .ok (.iconst 1, 1) := by decide +kernel
theorem dX3_isDigit_13 : decode cX3_isDigit 13 = .ok (.goto 4, 3) := by decide +kernel
theorem dX3_isDigit_16 : decode cX3_isDigit 16 = .ok (.iconst 0, 1) := by decide +kernel
theorem dX3_isDigit_17 : decode cX3_isDigit 17 = .ok (.ireturn, 1) := by decide +kernel
theorem dX4_init_0 : decode cX4_init 0 = .ok (.aload_n 0, 1) := by decide +kernel
theorem dX4_init_1 : decode cX4_init 1 = .ok (.invokespecial 3, 3) := by decide +kernel
theorem dX4_init_4 : decode cX4_init 4 = .ok (.aload_n 0, 1) := by decide +kernel
theorem dX4_init_5 : decode cX4_init 5 = .ok (.bipush 6, 2) := by decide +kernel
theorem dX4_init_7 : decode cX4_init 7 = .ok (.newarray .int, 2) := by decide +kernel
theorem dX4_init_9 : decode cX4_init 9 = .ok (.putfield 9, 3) := by decide +kernel
theorem dX4_init_12 : decode cX4_init 12 = .ok (.aload_n 0, 1) := by decide +kernel
theorem dX4_init_13 : decode cX4_init 13 = .ok (.bipush 16, 2) := by decide +kernel
theorem dX4_init_15 : decode cX4_init 15 = .ok (.anewarray 15, 3) := by decide +kernel
theorem dX4_init_18 : decode cX4_init 18 = .ok (.putfield 17, 3) := by decide +kernel
theorem dX4_init_21 : decode cX4_init 21 = .ok (.aload_n 0, 1) := by decide +kernel
theorem dX4_init_22 : decode cX4_init 22 = .ok (.bipush 8, 2) := by decide +kernel
theorem dX4_init_24 : decode cX4_init 24 = .ok (.anewarray 21, 3) := by decide +kernel
theorem dX4_init_27 : decode cX4_init 27 = .ok (.putfield 23, 3) := by decide +kernel
theorem dX4_init_30 : decode cX4_init 30 = .ok (.aload_n 0, 1) := by decide +kernel
theorem dX4_init_31 : decode cX4_init 31 = .ok (.bipush 8, 2) := by decide +kernel
theorem dX4_init_33 : decode cX4_init 33 = .ok (.anewarray 27, 3) := by decide +kernel
theorem dX4_init_36 : decode cX4_init 36 = .ok (.putfield 29, 3) := by decide +kernel
theorem dX4_init_39 : decode cX4_init 39 = .ok (.getstatic 33, 3) := by decide +kernel
theorem dX4_init_42 : decode cX4_init 42 = .ok (.iconst 0, 1) := by decide +kernel
theorem dX4_init_43 : decode cX4_init 43 = .ok (.aload_n 0, 1) := by decide +kernel
theorem dX4_init_44 : decode cX4_init 44 = .ok (.getfield 9, 3) := by decide +kernel
theorem dX4_init_47 : decode cX4_init 47 = .ok (.iconst 0, 1) := by decide +kernel
theorem dX4_init_48 : decode cX4_init 48 = .ok (.bipush 6, 2) := by decide +kernel
theorem dX4_init_50 : decode cX4_init 50 = .ok (.invokestatic 36, 3) := by decide +kernel
theorem dX4_init_53 : decode cX4_init 53 = .ok (.iconst 0, 1) := by decide +kernel
theorem dX4_init_54 : decode cX4_init 54 = .ok (.istore_n 1, 1) := by decide +kernel
theorem dX4_init_55 : decode cX4_init 55 = .ok (.iload_n 1, 1) := by decide +kernel
theorem dX4_init_56 : decode cX4_init 56 = .ok (.bipush 16, 2) := by decide +kernel
theorem dX4_init_58 : decode cX4_init 58 = .ok (.if_icmp .ge 22, 3) := by decide +kernel
theorem dX4_init_61 : decode cX4_init 61 = .ok (.aload_n 0, 1) := by decide +kernel
theorem dX4_init_62 : decode cX4_init 62 = .ok (.getfield 17, 3) := by decide +kernel
theorem dX4_init_65 : decode cX4_init 65 = .ok (.iload_n 1, 1) := by decide +kernel
theorem dX4_init_66 : decode cX4_init 66 = .ok (.new 15, 3) := by decide +kernel
theorem dX4_init_69 : decode cX4_init 69 = .ok (.dup, 1) := by decide +kernel
theorem dX4_init_70 : decode cX4_init 70 = .ok (.invokespecial 42, 3) := by decide +kernel
theorem dX4_init_73 : decode cX4_init 73 = .ok (.aastore, 1) := by decide +kernel
theorem dX4_init_74 : decode cX4_init 74 = .ok (.iinc 1 1, 3) := by decide +kernel
theorem dX4_init_77 : decode cX4_init 77 = .ok (.goto (-22), 3) := by decide +kernel
theorem dX4_init_80 : decode cX4_init 80 = .ok (.iconst 0, 1) := by decide +kernel
theorem dX4_init_81 : decode cX4_init 81 = .ok (.istore_n 1, 1) := by decide +kernel
theorem dX4_init_82 : decode cX4_init 82 = .ok (.iload_n 1, 1) := by decide +kernel
theorem dX4_init_83 : decode cX4_init 83 = .ok (.bipush 8, 2) := by decide +kernel
theorem dX4_init_85 : decode cX4_init 85 = .ok (.if_icmp .ge 22, 3) := by decide +kernel
theorem dX4_init_88 : decode cX4_init 88 = .ok (.aload_n 0, 1) := by decide +kernel
theorem dX4_init_89 : decode cX4_init 89 = .ok (.getfield 23, 3) := by decide +kernel
theorem dX4_init_92 : decode cX4_init 92 = .ok (.iload_n 1, 1) := by decide +kernel
theorem dX4_init_93 : decode cX4_init 93 = .ok (.new 21, 3) := by decide +kernel
theorem dX4_init_96 : decode cX4_init 96 = .ok (.dup, 1) := by decide +kernel
theorem dX4_init_97 : decode cX4_init 97 = .ok (.invokespecial 43, 3) := by decide +kernel
theorem dX4_init_100 : decode cX4_init 100 = .ok (.aastore, 1) := by decide +kernel
theorem dX4_init_101 : decode cX4_init 101 = .ok (.iinc 1 1, 3) := by decide +kernel
theorem dX4_init_104 : decode cX4_init 104 = .ok (.goto (-22), 3) := by decide +kernel
theorem dX4_init_107 : decode cX4_init 107 = .ok (.iconst 0, 1) := by decide +kernel
theorem dX4_init_108 : decode cX4_init 108 = .ok (.istore_n 1, 1) := by decide +kernel
theorem dX4_init_109 : decode cX4_init 109 = .ok (.iload_n 1, 1) := by decide +kernel
theorem dX4_init_110 : decode cX4_init 110 = .ok (.bipush 8, 2) := by decide +kernel
theorem dX4_init_112 : decode cX4_init 112 = .ok (.if_icmp .ge 22, 3) := by decide +kernel
theorem dX4_init_115 : decode cX4_init 115 = .ok (.aload_n 0, 1) := by decide +kernel
theorem dX4_init_116 : decode cX4_init 116 = .ok (.getfield 29, 3) := by decide +kernel
theorem dX4_init_119 : decode cX4_init 119 = .ok (.iload_n 1, 1) := by decide +kernel
theorem dX4_init_120 : decode cX4_init 120 = .ok (.new 27, 3) := by decide +kernel
theorem dX4_init_123 : decode cX4_init 123 = .ok (.dup, 1) := by decide +kernel
theorem dX4_init_124 : decode cX4_init 124 = .ok (.invokespecial 44, 3) := by decide +kernel
theorem dX4_init_127 : decode cX4_init 127 = .ok (.aastore, 1) := by decide +kernel
theorem dX4_init_128 : decode cX4_init 128 = .ok (.iinc 1 1, 3) := by decide +kernel
theorem dX4_init_131 : decode cX4_init 131 = .ok (.goto (-22), 3) := by decide +kernel
theorem dX4_init_134 : decode cX4_init 134 = .ok (.return_, 1) := by decide +kernel
theorem dX4_become_0 : decode cX4_become 0 = .ok (.aload_n 1, 1) := by decide +kernel
theorem dX4_become_1 : decode cX4_become 1 = .ok (.getfield 9, 3) := by decide +kernel
theorem dX4_become_4 : decode cX4_become 4 = .ok (.iconst 0, 1) := by decide +kernel
theorem dX4_become_5 : decode cX4_become 5 = .ok (.aload_n 0, 1) := by decide +kernel
theorem dX4_become_6 : decode cX4_become 6 = .ok (.getfield 9, 3) := by decide +kernel
theorem dX4_become_9 : decode cX4_become 9 = .ok (.iconst 0, 1) := by decide +kernel
theorem dX4_become_10 : decode cX4_become 10 = .ok (.bipush 6, 2) := by decide +kernel
theorem dX4_become_12 : decode cX4_become 12 = .ok (.invokestatic 36, 3) := by decide +kernel
theorem dX4_become_15 : decode cX4_become 15 = .ok (.aload_n 0, 1) := by decide +kernel
theorem dX4_become_16 : decode cX4_become 16 = .ok (.aload_n 1, 1) := by decide +kernel
theorem dX4_become_17 : decode cX4_become 17 = .ok (.getfield 45, 3) := by decide +kernel
theorem dX4_become_20 : decode cX4_become 20 = .ok (.putfield 45, 3) := by decide +kernel
theorem dX4_become_23 : decode cX4_become 23 = .ok (.iconst 0, 1) := by decide +kernel
theorem dX4_become_24 : decode cX4_become 24 = .ok (.istore_n 2, 1) := by decide +kernel
theorem dX4_become_25 : decode cX4_become 25 = .ok (.iload_n 2, 1) := by decide +kernel
theorem dX4_become_26 : decode cX4_become 26 = .ok (.aload_n 0, 1) := by decide +kernel
theorem dX4_become_27 : decode cX4_become 27 = .ok (.getfield 45, 3) := by decide +kernel
theorem dX4_become_30 : decode cX4_become 30 = .ok (.if_icmp .ge 24, 3) := by decide +kernel
theorem dX4_become_33 : decode cX4_become 33 = .ok (.aload_n 0, 1) := by decide +kernel
theorem dX4_become_34 : decode cX4_become 34 = .ok (.getfield 17, 3) := by decide +kernel
theorem dX4_become_37 : decode cX4_become 37 = .ok (.iload_n 2, 1) := by decide +kernel
theorem dX4_become_38 : decode cX4_become 38 = .ok (.aaload, 1) := by decide +kernel
theorem dX4_become_39 : decode cX4_become 39 = .ok (.aload_n 1, 1) := by decide +kernel
theorem dX4_become_40 : decode cX4_become 40 = .ok (.getfield 17, 3) := by decide +kernel
theorem dX4_become_43 : decode cX4_become 43 = .ok (.iload_n 2, 1) := by decide +kernel
theorem dX4_become_44 : decode cX4_become 44 = .ok (.aaload, 1) := by decide +kernel
theorem dX4_become_45 : decode cX4_become 45 = .ok (.invokevirtual 49, 3) := by decide +kernel
theorem dX4_become_48 : decode cX4_become 48 = .ok (.iinc 2 1, 3) := by decide +kernel
theorem dX4_become_51 : decode cX4_become 51 = .ok (.goto (-26), 3) := by decide +kernel
theorem dX4_become_54 : decode cX4_become 54 = .ok (.aload_n 0, 1) := by decide +kernel
theorem dX4_become_55 : decode cX4_become 55 = .ok (.aload_n 1, 1) := by decide +kernel
theorem dX4_become_56 : decode cX4_become 56 = .ok (.getfield 53, 3) := by decide +kernel
theorem dX4_become_59 : decode cX4_become 59 = .ok (.putfield 53, 3) := by decide +kernel
theorem dX4_become_62 : decode cX4_become 62 = .ok (.iconst 0, 1) := by decide +kernel
theorem dX4_become_63 : decode cX4_become 63 = .ok (.istore_n 2, 1) := by decide +kernel
theorem dX4_become_64 : decode cX4_become 64 = .ok (.iload_n 2, 1) := by decide +kernel
theorem dX4_become_65 : decode cX4_become 65 = .ok (.aload_n 0, 1) := by decide +kernel
theorem dX4_become_66 : decode cX4_become 66 = .ok (.getfield 53, 3) := by decide +kernel
theorem dX4_become_69 : decode cX4_become 69 = .ok (.if_icmp .ge 24, 3) := by decide +kernel
theorem dX4_become_72 : decode cX4_become 72 = .ok (.aload_n 0, 1) := by decide +kernel
theorem dX4_become_73 : decode cX4_become 73 = .ok (.getfield 23, 3) := by decide +kernel
theorem dX4_become_76 : decode cX4_become 76 = .ok (.iload_n 2, 1) := by decide +kernel
theorem dX4_become_77 : decode cX4_become 77 = .ok (.aaload, 1) := by decide +kernel
theorem dX4_become_78 : decode cX4_become 78 = .ok (.aload_n 1, 1) := by decide +kernel
theorem dX4_become_79 : decode cX4_become 79 = .ok (.getfield 23, 3) := by decide +kernel
theorem dX4_become_82 : decode cX4_become 82 = .ok (.iload_n 2, 1) := by decide +kernel
theorem dX4_become_83 : decode cX4_become 83 = .ok (.aaload, 1) := by decide +kernel
theorem dX4_become_84 : decode cX4_become 84 = .ok (.invokevirtual 56, 3) := by decide +kernel
theorem dX4_become_87 : decode cX4_become 87 = .ok (.iinc 2 1, 3) := by decide +kernel
theorem dX4_become_90 : decode cX4_become 90 = .ok (.goto (-26), 3) := by decide +kernel
theorem dX4_become_93 : decode cX4_become 93 = .ok (.aload_n 0, 1) := by decide +kernel
theorem dX4_become_94 : decode cX4_become 94 = .ok (.aload_n 1, 1) := by decide +kernel
theorem dX4_become_95 : decode cX4_become 95 = .ok (.getfield 59, 3) := by decide +kernel
theorem dX4_become_98 : decode cX4_become 98 = .ok (.putfield 59, 3) := by decide +kernel
theorem dX4_become_101 : decode cX4_become 101 = .ok (.iconst 0, 1) := by decide +kernel
theorem dX4_become_102 : decode cX4_become 102 = .ok (.istore_n 2, 1) := by decide +kernel
theorem dX4_become_103 : decode cX4_become 103 = .ok (.iload_n 2, 1) := by decide +kernel
theorem dX4_become_104 : decode cX4_become 104 = .ok (.aload_n 0, 1) := by decide +kernel
theorem dX4_become_105 : decode cX4_become 105 = .ok (.getfield 59, 3) := by decide +kernel
theorem dX4_become_108 : decode cX4_become 108 = .ok (.if_icmp .ge 24, 3) := by decide +kernel
theorem dX4_become_111 : decode cX4_become 111 = .ok (.aload_n 0, 1) := by decide +kernel
theorem dX4_become_112 : decode cX4_become 112 = .ok (.getfield 29, 3) := by decide +kernel
theorem dX4_become_115 : decode cX4_become 115 = .ok (.iload_n 2, 1) := by decide +kernel
theorem dX4_become_116 : decode cX4_become 116 = .ok (.aaload, 1) := by decide +kernel
theorem dX4_become_117 : decode cX4_become 117 = .ok (.aload_n 1, 1) := by decide +kernel
theorem dX4_become_118 : decode cX4_become 118 = .ok (.getfield 29, 3) := by decide +kernel
theorem dX4_become_121 : decode cX4_become 121 = .ok (.iload_n 2, 1) := by decide +kernel
theorem dX4_become_122 : decode cX4_become 122 = .ok (.aaload, 1) := by decide +kernel
theorem dX4_become_123 : decode cX4_become 123 = .ok (.invokevirtual 62, 3) := by decide +kernel
theorem dX4_become_126 : decode cX4_become 126 = .ok (.iinc 2 1, 3) := by decide +kernel
theorem dX4_become_129 : decode cX4_become 129 = .ok (.goto (-26), 3) := by decide +kernel
theorem dX4_become_132 : decode cX4_become 132 = .ok (.aload_n 0, 1) := by decide +kernel
theorem dX4_become_133 : decode cX4_become 133 = .ok (.aload_n 1, 1) := by decide +kernel
theorem dX4_become_134 : decode cX4_become 134 = .ok (.getfield 65, 3) := by decide +kernel
theorem dX4_become_137 : decode cX4_become 137 = .ok (.putfield 65, 3) := by decide +kernel
theorem dX4_become_140 : decode cX4_become 140 = .ok (.return_, 1) := by decide +kernel
theorem dX4_hasLamp_0 : decode cX4_hasLamp 0 = .ok (.iload_n 1, 1) := by decide +kernel
theorem dX4_hasLamp_1 : decode cX4_hasLamp 1 = .ok (.ifCond .lt 15, 3) := by decide +kernel
theorem dX4_hasLamp_4 : decode cX4_hasLamp 4 = .ok (.iload_n 1, 1) := by decide +kernel
theorem dX4_hasLamp_5 : decode cX4_hasLamp 5 = .ok (.aload_n 0, 1) := by decide +kernel
theorem dX4_hasLamp_6 : decode cX4_hasLamp 6 = .ok (.getfield 45, 3) := by decide +kernel
theorem dX4_hasLamp_9 : decode cX4_hasLamp 9 = .ok (.if_icmp .ge 7, 3) := by decide +kernel
theorem dX4_hasLamp_12 : decode cX4_hasLamp 12 = .ok (.iconst 1, 1) := by decide +kernel
theorem dX4_hasLamp_13 : decode cX4_hasLamp 13 = .ok (.goto 4, 3) := by decide +kernel
theorem dX4_hasLamp_16 : decode cX4_hasLamp 16 = .ok (.iconst 0, 1) := by decide +kernel
theorem dX4_hasLamp_17 : decode cX4_hasLamp 17 = .ok (.ireturn, 1) := by decide +kernel
theorem dX4_hasHouse_0 : decode cX4_hasHouse 0 = .ok (.iload_n 1, 1) := by decide +kernel
theorem dX4_hasHouse_1 : decode cX4_hasHouse 1 = .ok (.ifCond .lt 15, 3) := by decide +kernel
theorem dX4_hasHouse_4 : decode cX4_hasHouse 4 = .ok (.iload_n 1, 1) := by decide +kernel
theorem dX4_hasHouse_5 : decode cX4_hasHouse 5 = .ok (.aload_n 0, 1) := by decide +kernel
theorem dX4_hasHouse_6 : decode cX4_hasHouse 6 = .ok (.getfield 53, 3) := by decide +kernel
theorem dX4_hasHouse_9 : decode cX4_hasHouse 9 = .ok (.if_icmp .ge 7, 3) := by decide +kernel
theorem dX4_hasHouse_12 : decode cX4_hasHouse 12 = .ok (.iconst 1, 1) := by decide +kernel
theorem dX4_hasHouse_13 : decode cX4_hasHouse 13 = .ok (.goto 4, 3) := by decide +kernel
theorem dX4_hasHouse_16 : decode cX4_hasHouse 16 = .ok (.iconst 0, 1) := by decide +kernel
theorem dX4_hasHouse_17 : decode cX4_hasHouse 17 = .ok (.ireturn, 1) := by decide +kernel
theorem dX4_hasWalker_0 : decode cX4_hasWalker 0 = .ok (.iload_n 1, 1) := by decide +kernel
theorem dX4_hasWalker_1 : decode cX4_hasWalker 1 = .ok (.ifCond .lt 15, 3) := by decide +kernel
theorem dX4_hasWalker_4 : decode cX4_hasWalker 4 = .ok (.iload_n 1, 1) := by decide +kernel
theorem dX4_hasWalker_5 : decode cX4_hasWalker 5 = .ok (.aload_n 0, 1) := by decide +kernel
theorem dX4_hasWalker_6 : decode cX4_hasWalker 6 = .ok (.getfield 59, 3) := by decide +kernel
theorem dX4_hasWalker_9 : decode cX4_hasWalker 9 = .ok (.if_icmp .ge 7, 3) := by decide +kernel
theorem dX4_hasWalker_12 : decode cX4_hasWalker 12 = .ok (.iconst 1, 1) := by decide +kernel
theorem dX4_hasWalker_13 : decode cX4_hasWalker 13 = .ok (.goto 4, 3) := by decide +kernel
theorem dX4_hasWalker_16 : decode cX4_hasWalker 16 = .ok (.iconst 0, 1) := by decide +kernel
theorem dX4_hasWalker_17 : decode cX4_hasWalker 17 = .ok (.ireturn, 1) := by decide +kernel
theorem dX4_changeSetting_0 : decode cX4_changeSetting 0 = .ok (.iload_n 1, 1) := by decide +kernel
theorem dX4_changeSetting_1 : decode cX4_changeSetting 1 = .ok (.iconst 0, 1) := by decide +kernel
theorem dX4_changeSetting_2 : decode cX4_changeSetting 2 = .ok (.iconst 5, 1) := by decide +kernel
theorem dX4_changeSetting_3 : decode cX4_changeSetting 3 = .ok (.invokestatic 68, 3) := by decide +kernel
theorem dX4_changeSetting_6 : decode cX4_changeSetting 6 = .ok (.ifCond .eq 20, 3) := by decide +kernel
theorem dX4_changeSetting_9 : decode cX4_changeSetting 9 = .ok (.iload_n 2, 1) := by decide +kernel
theorem dX4_changeSetting_10 : decode cX4_changeSetting 10 = .ok (.getstatic 72, 3) := by decide +kernel
theorem dX4_changeSetting_13 : decode cX4_changeSetting 13 = .ok (.iload_n 1, 1) := by decide +kernel
theorem dX4_changeSetting_14 : decode cX4_changeSetting 14 = .ok (.iaload, 1) := by decide +kernel
theorem dX4_changeSetting_15 : decode cX4_changeSetting 15 = .ok (.getstatic 75, 3) := by decide +kernel
theorem dX4_changeSetting_18 : decode cX4_changeSetting 18 = .ok (.iload_n 1, 1) := by decide +kernel
theorem dX4_changeSetting_19 : decode cX4_changeSetting 19 = .ok (.iaload, 1) := by decide +kernel
theorem dX4_changeSetting_20 : decode cX4_changeSetting 20 = .ok (.invokestatic 68, 3) := by decide +kernel
theorem dX4_changeSetting_23 : decode cX4_changeSetting 23 = .ok (.ifCond .ne 6, 3) := by decide +kernel
theorem dX4_changeSetting_26 : decode cX4_changeSetting 26 = .ok (.bipush (-2), 2) := by decide +kernel
theorem dX4_changeSetting_28 : decode cX4_changeSetting 28 = .ok (.ireturn, 1) := by decide +kernel
theorem dX4_changeSetting_29 : decode cX4_changeSetting 29 = .ok (.aload_n 0, 1) := by decide +kernel
theorem dX4_changeSetting_30 : decode cX4_changeSetting 30 = .ok (.getfield 9, 3) := by decide +kernel
theorem dX4_changeSetting_33 : decode cX4_changeSetting 33 = .ok (.iload_n 1, 1) := by decide +kernel
theorem dX4_changeSetting_34 : decode cX4_changeSetting 34 = .ok (.iaload, 1) := by decide +kernel
theorem dX4_changeSetting_35 : decode cX4_changeSetting 35 = .ok (.istore_n 3, 1) := by decide +kernel
theorem dX4_changeSetting_36 : decode cX4_changeSetting 36 = .ok (.aload_n 0, 1) := by decide +kernel
theorem dX4_changeSetting_37 : decode cX4_changeSetting 37 = .ok (.getfield 9, 3) := by decide +kernel
theorem dX4_changeSetting_40 : decode cX4_changeSetting 40 = .ok (.iload_n 1, 1) := by decide +kernel
theorem dX4_changeSetting_41 : decode cX4_changeSetting 41 = .ok (.iload_n 2, 1) := by decide +kernel
theorem dX4_changeSetting_42 : decode cX4_changeSetting 42 = .ok (.iastore, 1) := by decide +kernel
theorem dX4_changeSetting_43 : decode cX4_changeSetting 43 = .ok (.iload_n 3, 1) := by decide +kernel
theorem dX4_changeSetting_44 : decode cX4_changeSetting 44 = .ok (.ireturn, 1) := by decide +kernel
theorem dX4_addLamp_0 : decode cX4_addLamp 0 = .ok (.iload_n 1, 1) := by decide +kernel
theorem dX4_addLamp_1 : decode cX4_addLamp 1 = .ok (.invokestatic 78, 3) := by decide +kernel
theorem dX4_addLamp_4 : decode cX4_addLamp 4 = .ok (.ifCond .eq 13, 3) := by decide +kernel
theorem dX4_addLamp_7 : decode cX4_addLamp 7 = .ok (.iload_n 2, 1) := by decide +kernel
theorem dX4_addLamp_8 : decode cX4_addLamp 8 = .ok (.iconst 1, 1) := by decide +kernel
theorem dX4_addLamp_9 : decode cX4_addLamp 9 = .ok (.bipush 30, 2) := by decide +kernel
theorem dX4_addLamp_11 : decode cX4_addLamp 11 = .ok (.invokestatic 68, 3) := by decide +kernel
theorem dX4_addLamp_14 : decode cX4_addLamp 14 = .ok (.ifCond .ne 6, 3) := by decide +kernel
theorem dX4_addLamp_17 : decode cX4_addLamp 17 = .ok (.bipush (-2), 2) := by decide +kernel
theorem dX4_addLamp_19 : decode cX4_addLamp 19 = .ok (.ireturn, 1) := by decide +kernel
theorem dX4_addLamp_20 : decode cX4_addLamp 20 = .ok (.aload_n 0, 1) := by decide +kernel
theorem dX4_addLamp_21 : decode cX4_addLamp 21 = .ok (.getfield 45, 3) := by decide +kernel
theorem dX4_addLamp_24 : decode cX4_addLamp 24 = .ok (.bipush 16, 2) := by decide +kernel
theorem dX4_addLamp_26 : decode cX4_addLamp 26 = .ok (.if_icmp .lt 6, 3) := by decide +kernel
theorem dX4_addLamp_29 : decode cX4_addLamp 29 = .ok (.bipush (-4), 2) := by decide +kernel
theorem dX4_addLamp_31 : decode cX4_addLamp 31 = .ok (.ireturn, 1) := by decide +kernel
theorem dX4_addLamp_32 : decode cX4_addLamp 32 = .ok (.iconst 0, 1) := by decide +kernel
theorem dX4_addLamp_33 : decode cX4_addLamp 33 = .ok (.istore_n 3, 1) := by decide +kernel
theorem dX4_addLamp_34 : decode cX4_addLamp 34 = .ok (.iload_n 3, 1) := by decide +kernel
theorem dX4_addLamp_35 : decode cX4_addLamp 35 = .ok (.aload_n 0, 1) := by decide +kernel
theorem dX4_addLamp_36 : decode cX4_addLamp 36 = .ok (.getfield 45, 3) := by decide +kernel
theorem dX4_addLamp_39 : decode cX4_addLamp 39 = .ok (.if_icmp .ge 25, 3) := by decide +kernel
theorem dX4_addLamp_42 : decode cX4_addLamp 42 = .ok (.aload_n 0, 1) := by decide +kernel
theorem dX4_addLamp_43 : decode cX4_addLamp 43 = .ok (.getfield 17, 3) := by decide +kernel
theorem dX4_addLamp_46 : decode cX4_addLamp 46 = .ok (.iload_n 3, 1) := by decide +kernel
theorem dX4_addLamp_47 : decode cX4_addLamp 47 = .ok (.aaload, 1) := by decide +kernel
theorem dX4_addLamp_48 : decode cX4_addLamp 48 = .ok (.getfield 82, 3) := by decide +kernel
theorem dX4_addLamp_51 : decode cX4_addLamp 51 = .ok (.iload_n 1, 1) := by decide +kernel
theorem dX4_addLamp_52 : decode cX4_addLamp 52 = .ok (.if_icmp .ne 6, 3) := by decide +kernel
theorem dX4_addLamp_55 : decode cX4_addLamp 55 = .ok (.bipush (-5), 2) := by decide +kernel
theorem dX4_addLamp_57 : decode cX4_addLamp 57 = .ok (.ireturn, 1) := by decide +kernel
theorem dX4_addLamp_58 : decode cX4_addLamp 58 = .ok (.iinc 3 1, 3) := by decide +kernel
theorem dX4_addLamp_61 : decode cX4_addLamp 61 = .ok (.goto (-27), 3) := by decide +kernel
theorem dX4_addLamp_64 : decode cX4_addLamp 64 = .ok (.aload_n 0, 1) := by decide +kernel
theorem dX4_addLamp_65 : decode cX4_addLamp 65 = .ok (.getfield 17, 3) := by decide +kernel
theorem dX4_addLamp_68 : decode cX4_addLamp 68 = .ok (.aload_n 0, 1) := by decide +kernel
theorem dX4_addLamp_69 : decode cX4_addLamp 69 = .ok (.getfield 45, 3) := by decide +kernel
theorem dX4_addLamp_72 : decode cX4_addLamp 72 = .ok (.aaload, 1) := by decide +kernel
theorem dX4_addLamp_73 : decode cX4_addLamp 73 = .ok (.iload_n 1, 1) := by decide +kernel
theorem dX4_addLamp_74 : decode cX4_addLamp 74 = .ok (.iload_n 2, 1) := by decide +kernel
theorem dX4_addLamp_75 : decode cX4_addLamp 75 = .ok (.invokevirtual 85, 3) := by decide +kernel
theorem dX4_addLamp_78 : decode cX4_addLamp 78 = .ok (.aload_n 0, 1) := by decide +kernel
theorem dX4_addLamp_79 : decode cX4_addLamp 79 = .ok (.dup, 1) := by decide +kernel
theorem dX4_addLamp_80 : decode cX4_addLamp 80 = .ok (.getfield 45, 3) := by decide +kernel
theorem dX4_addLamp_83 : decode cX4_addLamp 83 = .ok (.iconst 1, 1) := by decide +kernel
theorem dX4_addLamp_84 : decode cX4_addLamp 84 = .ok (.iadd, 1) := by decide +kernel
theorem dX4_addLamp_85 : decode cX4_addLamp 85 = .ok (.putfield 45, 3) := by decide +kernel
theorem dX4_addLamp_88 : decode cX4_addLamp 88 = .ok (.aload_n 0, 1) := by decide +kernel
theorem dX4_addLamp_89 : decode cX4_addLamp 89 = .ok (.getfield 45, 3) := by decide +kernel
theorem dX4_addLamp_92 : decode cX4_addLamp 92 = .ok (.iconst 1, 1) := by decide +kernel
theorem dX4_addLamp_93 : decode cX4_addLamp 93 = .ok (.isub, 1) := by decide +kernel
theorem dX4_addLamp_94 : decode cX4_addLamp 94 = .ok (.ireturn, 1) := by decide +kernel
theorem dX4_addHouse_0 : decode cX4_addHouse 0 = .ok (.iload_n 1, 1) := by decide +kernel
theorem dX4_addHouse_1 : decode cX4_addHouse 1 = .ok (.invokestatic 78, 3) := by decide +kernel
theorem dX4_addHouse_4 : decode cX4_addHouse 4 = .ok (.ifCond .ne 6, 3) := by decide +kernel
theorem dX4_addHouse_7 : decode cX4_addHouse 7 = .ok (.bipush (-2), 2) := by decide +kernel
theorem dX4_addHouse_9 : decode cX4_addHouse 9 = .ok (.ireturn, 1) := by decide +kernel
theorem dX4_addHouse_10 : decode cX4_addHouse 10 = .ok (.aload_n 0, 1) := by decide +kernel
theorem dX4_addHouse_11 : decode cX4_addHouse 11 = .ok (.getfield 53, 3) := by decide +kernel
theorem dX4_addHouse_14 : decode cX4_addHouse 14 = .ok (.bipush 8, 2) := by decide +kernel
theorem dX4_addHouse_16 : decode cX4_addHouse 16 = .ok (.if_icmp .lt 6, 3) := by decide +kernel
theorem dX4_addHouse_19 : decode cX4_addHouse 19 = .ok (.bipush (-4), 2) := by decide +kernel
theorem dX4_addHouse_21 : decode cX4_addHouse 21 = .ok (.ireturn, 1) := by decide +kernel
theorem dX4_addHouse_22 : decode cX4_addHouse 22 = .ok (.aload_n 0, 1) := by decide +kernel
theorem dX4_addHouse_23 : decode cX4_addHouse 23 = .ok (.getfield 23, 3) := by decide +kernel
theorem dX4_addHouse_26 : decode cX4_addHouse 26 = .ok (.aload_n 0, 1) := by decide +kernel
theorem dX4_addHouse_27 : decode cX4_addHouse 27 = .ok (.getfield 53, 3) := by decide +kernel
theorem dX4_addHouse_30 : decode cX4_addHouse 30 = .ok (.aaload, 1) := by decide +kernel
theorem dX4_addHouse_31 : decode cX4_addHouse 31 = .ok (.iload_n 1, 1) := by decide +kernel
theorem dX4_addHouse_32 : decode cX4_addHouse 32 = .ok (.invokevirtual 89, 3) := by decide +kernel
theorem dX4_addHouse_35 : decode cX4_addHouse 35 = .ok (.aload_n 0, 1) := by decide +kernel
theorem dX4_addHouse_36 : decode cX4_addHouse 36 = .ok (.dup, 1) := by decide +kernel
theorem dX4_addHouse_37 : decode cX4_addHouse 37 = .ok (.getfield 53, 3) := by decide +kernel
theorem dX4_addHouse_40 : decode cX4_addHouse 40 = .ok (.iconst 1, 1) := by decide +kernel
theorem dX4_addHouse_41 : decode cX4_addHouse 41 = .ok (.iadd, 1) := by decide +kernel
theorem dX4_addHouse_42 : decode cX4_addHouse 42 = .ok (.putfield 53, 3) := by decide +kernel
theorem dX4_addHouse_45 : decode cX4_addHouse 45 = .ok (.aload_n 0, 1) := by decide +kernel
theorem dX4_addHouse_46 : decode cX4_addHouse 46 = .ok (.getfield 53, 3) := by decide +kernel
theorem dX4_addHouse_49 : decode cX4_addHouse 49 = .ok (.iconst 1, 1) := by decide +kernel
theorem dX4_addHouse_50 : decode cX4_addHouse 50 = .ok (.isub, 1) := by decide +kernel
theorem dX4_addHouse_51 : decode cX4_addHouse 51 = .ok (.ireturn, 1) := by decide +kernel
theorem dX4_addWalker_0 : decode cX4_addWalker 0 = .ok (.iload_n 1, 1) := by decide +kernel
theorem dX4_addWalker_1 : decode cX4_addWalker 1 = .ok (.invokestatic 78, 3) := by decide +kernel
theorem dX4_addWalker_4 : decode cX4_addWalker 4 = .ok (.ifCond .eq 12, 3) := by decide +kernel
theorem dX4_addWalker_7 : decode cX4_addWalker 7 = .ok (.iload_n 2, 1) := by decide +kernel
theorem dX4_addWalker_8 : decode cX4_addWalker 8 = .ok (.iconst 1, 1) := by decide +kernel
theorem dX4_addWalker_9 : decode cX4_addWalker 9 = .ok (.iconst 4, 1) := by decide +kernel
theorem dX4_addWalker_10 : decode cX4_addWalker 10 = .ok (.invokestatic 68, 3) := by decide +kernel
theorem dX4_addWalker_13 : decode cX4_addWalker 13 = .ok (.ifCond .ne 6, 3) := by decide +kernel
theorem dX4_addWalker_16 : decode cX4_addWalker 16 = .ok (.bipush (-2), 2) := by decide +kernel
theorem dX4_addWalker_18 : decode cX4_addWalker 18 = .ok (.ireturn, 1) := by decide +kernel
theorem dX4_addWalker_19 : decode cX4_addWalker 19 = .ok (.aload_n 0, 1) := by decide +kernel
theorem dX4_addWalker_20 : decode cX4_addWalker 20 = .ok (.getfield 59, 3) := by decide +kernel
theorem dX4_addWalker_23 : decode cX4_addWalker 23 = .ok (.bipush 8, 2) := by decide +kernel
theorem dX4_addWalker_25 : decode cX4_addWalker 25 = .ok (.if_icmp .lt 6, 3) := by decide +kernel
theorem dX4_addWalker_28 : decode cX4_addWalker 28 = .ok (.bipush (-4), 2) := by decide +kernel
theorem dX4_addWalker_30 : decode cX4_addWalker 30 = .ok (.ireturn, 1) := by decide +kernel
theorem dX4_addWalker_31 : decode cX4_addWalker 31 = .ok (.aload_n 0, 1) := by decide +kernel
theorem dX4_addWalker_32 : decode cX4_addWalker 32 = .ok (.getfield 29, 3) := by decide +kernel
theorem dX4_addWalker_35 : decode cX4_addWalker 35 = .ok (.aload_n 0, 1) := by decide +kernel
theorem dX4_addWalker_36 : decode cX4_addWalker 36 = .ok (.getfield 59, 3) := by decide +kernel
theorem dX4_addWalker_39 : decode cX4_addWalker 39 = .ok (.aaload, 1) := by decide +kernel
theorem dX4_addWalker_40 : decode cX4_addWalker 40 = .ok (.iload_n 1, 1) := by decide +kernel
theorem dX4_addWalker_41 : decode cX4_addWalker 41 = .ok (.iload_n 2, 1) := by decide +kernel
theorem dX4_addWalker_42 : decode cX4_addWalker 42 = .ok (.invokevirtual 92, 3) := by decide +kernel
theorem dX4_addWalker_45 : decode cX4_addWalker 45 = .ok (.aload_n 0, 1) := by decide +kernel
theorem dX4_addWalker_46 : decode cX4_addWalker 46 = .ok (.dup, 1) := by decide +kernel
theorem dX4_addWalker_47 : decode cX4_addWalker 47 = .ok (.getfield 59, 3) := by decide +kernel
theorem dX4_addWalker_50 : decode cX4_addWalker 50 = .ok (.iconst 1, 1) := by decide +kernel
theorem dX4_addWalker_51 : decode cX4_addWalker 51 = .ok (.iadd, 1) := by decide +kernel
theorem dX4_addWalker_52 : decode cX4_addWalker 52 = .ok (.putfield 59, 3) := by decide +kernel
theorem dX4_addWalker_55 : decode cX4_addWalker 55 = .ok (.aload_n 0, 1) := by decide +kernel
theorem dX4_addWalker_56 : decode cX4_addWalker 56 = .ok (.getfield 59, 3) := by decide +kernel
theorem dX4_addWalker_59 : decode cX4_addWalker 59 = .ok (.iconst 1, 1) := by decide +kernel
theorem dX4_addWalker_60 : decode cX4_addWalker 60 = .ok (.isub, 1) := by decide +kernel
theorem dX4_addWalker_61 : decode cX4_addWalker 61 = .ok (.ireturn, 1) := by decide +kernel
theorem dX4_giveGoal_0 : decode cX4_giveGoal 0 = .ok (.aload_n 0, 1) := by decide +kernel
theorem dX4_giveGoal_1 : decode cX4_giveGoal 1 = .ok (.iload_n 1, 1) := by decide +kernel
theorem dX4_giveGoal_2 : decode cX4_giveGoal 2 = .ok (.invokevirtual 93, 3) := by decide +kernel
theorem dX4_giveGoal_5 : decode cX4_giveGoal 5 = .ok (.ifCond .ne 5, 3) := by decide +kernel
theorem dX4_giveGoal_8 : decode cX4_giveGoal 8 = .ok (.iconst (-1), 1) := by decide +kernel
theorem dX4_giveGoal_9 : decode cX4_giveGoal 9 = .ok (.ireturn, 1) := by decide +kernel
theorem dX4_giveGoal_10 : decode cX4_giveGoal 10 = .ok (.iload_n 2, 1) := by decide +kernel
theorem dX4_giveGoal_11 : decode cX4_giveGoal 11 = .ok (.invokestatic 78, 3) := by decide +kernel
theorem dX4_giveGoal_14 : decode cX4_giveGoal 14 = .ok (.ifCond .eq 13, 3) := by decide +kernel
theorem dX4_giveGoal_17 : decode cX4_giveGoal 17 = .ok (.iload_n 3, 1) := by decide +kernel
theorem dX4_giveGoal_18 : decode cX4_giveGoal 18 = .ok (.iconst 0, 1) := by decide +kernel
theorem dX4_giveGoal_19 : decode cX4_giveGoal 19 = .ok (.bipush 20, 2) := by decide +kernel
theorem dX4_giveGoal_21 : decode cX4_giveGoal 21 = .ok (.invokestatic 68, 3) := by decide +kernel
theorem dX4_giveGoal_24 : decode cX4_giveGoal 24 = .ok (.ifCond .ne 6, 3) := by decide +kernel
theorem dX4_giveGoal_27 : decode cX4_giveGoal 27 = .ok (.bipush (-2), 2) := by decide +kernel
theorem dX4_giveGoal_29 : decode cX4_giveGoal 29 = .ok (.ireturn, 1) := by decide +kernel
theorem dX4_giveGoal_30 : decode cX4_giveGoal 30 = .ok (.aload_n 0, 1) := by decide +kernel
theorem dX4_giveGoal_31 : decode cX4_giveGoal 31 = .ok (.getfield 29, 3) := by decide +kernel
theorem dX4_giveGoal_34 : decode cX4_giveGoal 34 = .ok (.iload_n 1, 1) := by decide +kernel
theorem dX4_giveGoal_35 : decode cX4_giveGoal 35 = .ok (.aaload, 1) := by decide +kernel
theorem dX4_giveGoal_36 : decode cX4_giveGoal 36 = .ok (.iload_n 2, 1) := by decide +kernel
theorem dX4_giveGoal_37 : decode cX4_giveGoal 37 = .ok (.iload_n 3, 1) := by decide +kernel
theorem dX4_giveGoal_38 : decode cX4_giveGoal 38 = .ok (.invokevirtual 96, 3) := by decide +kernel
theorem dX4_giveGoal_41 : decode cX4_giveGoal 41 = .ok (.ireturn, 1) := by decide +kernel
theorem dX4_mendLamp_0 : decode cX4_mendLamp 0 = .ok (.aload_n 0, 1) := by decide +kernel
theorem dX4_mendLamp_1 : decode cX4_mendLamp 1 = .ok (.iload_n 1, 1) := by decide +kernel
theorem dX4_mendLamp_2 : decode cX4_mendLamp 2 = .ok (.invokevirtual 100, 3) := by decide +kernel
theorem dX4_mendLamp_5 : decode cX4_mendLamp 5 = .ok (.ifCond .ne 5, 3) := by decide +kernel
theorem dX4_mendLamp_8 : decode cX4_mendLamp 8 = .ok (.iconst (-1), 1) := by decide +kernel
theorem dX4_mendLamp_9 : decode cX4_mendLamp 9 = .ok (.ireturn, 1) := by decide +kernel
theorem dX4_mendLamp_10 : decode cX4_mendLamp 10 = .ok (.iload_n 2, 1) := by decide +kernel
theorem dX4_mendLamp_11 : decode cX4_mendLamp 11 = .ok (.iconst 0, 1) := by decide +kernel
theorem dX4_mendLamp_12 : decode cX4_mendLamp 12 = .ok (.iconst 2, 1) := by decide +kernel
theorem dX4_mendLamp_13 : decode cX4_mendLamp 13 = .ok (.invokestatic 68, 3) := by decide +kernel
theorem dX4_mendLamp_16 : decode cX4_mendLamp 16 = .ok (.ifCond .ne 6, 3) := by decide +kernel
theorem dX4_mendLamp_19 : decode cX4_mendLamp 19 = .ok (.bipush (-2), 2) := by decide +kernel
theorem dX4_mendLamp_21 : decode cX4_mendLamp 21 = .ok (.ireturn, 1) := by decide +kernel
theorem dX4_mendLamp_22 : decode cX4_mendLamp 22 = .ok (.aload_n 0, 1) := by decide +kernel
theorem dX4_mendLamp_23 : decode cX4_mendLamp 23 = .ok (.getfield 17, 3) := by decide +kernel
theorem dX4_mendLamp_26 : decode cX4_mendLamp 26 = .ok (.iload_n 1, 1) := by decide +kernel
theorem dX4_mendLamp_27 : decode cX4_mendLamp 27 = .ok (.aaload, 1) := by decide +kernel
theorem dX4_mendLamp_28 : decode cX4_mendLamp 28 = .ok (.getfield 103, 3) := by decide +kernel
theorem dX4_mendLamp_31 : decode cX4_mendLamp 31 = .ok (.istore_n 3, 1) := by decide +kernel
theorem dX4_mendLamp_32 : decode cX4_mendLamp 32 = .ok (.aload_n 0, 1) := by decide +kernel
theorem dX4_mendLamp_33 : decode cX4_mendLamp 33 = .ok (.getfield 17, 3) := by decide +kernel
theorem dX4_mendLamp_36 : decode cX4_mendLamp 36 = .ok (.iload_n 1, 1) := by decide +kernel
theorem dX4_mendLamp_37 : decode cX4_mendLamp 37 = .ok (.aaload, 1) := by decide +kernel
theorem dX4_mendLamp_38 : decode cX4_mendLamp 38 = .ok (.iload_n 2, 1) := by decide +kernel
theorem dX4_mendLamp_39 : decode cX4_mendLamp 39 = .ok (.invokevirtual 106, 3) := by decide +kernel
theorem dX4_mendLamp_42 : decode cX4_mendLamp 42 = .ok (.iload_n 3, 1) := by decide +kernel
theorem dX4_mendLamp_43 : decode cX4_mendLamp 43 = .ok (.ireturn, 1) := by decide +kernel
theorem dX4_coughByOrder_0 : decode cX4_coughByOrder 0 = .ok (.aload_n 0, 1) := by decide +kernel
theorem dX4_coughByOrder_1 : decode cX4_coughByOrder 1 = .ok (.iload_n 1, 1) := by decide +kernel
theorem dX4_coughByOrder_2 : decode cX4_coughByOrder 2 = .ok (.invokevirtual 100, 3) := by decide +kernel
theorem dX4_coughByOrder_5 : decode cX4_coughByOrder 5 = .ok (.ifCond .ne 5, 3) := by decide +kernel
theorem dX4_coughByOrder_8 : decode cX4_coughByOrder 8 = .ok (.iconst (-1), 1) := by decide +kernel
theorem dX4_coughByOrder_9 : decode cX4_coughByOrder 9 = .ok (.ireturn, 1) := by decide +kernel
theorem dX4_coughByOrder_10 : decode cX4_coughByOrder 10 = .ok (.aload_n 0, 1) := by decide +kernel
theorem dX4_coughByOrder_11 : decode cX4_coughByOrder 11 = .ok (.getfield 17, 3) := by decide +kernel
theorem dX4_coughByOrder_14 : decode cX4_coughByOrder 14 = .ok (.iload_n 1, 1) := by decide +kernel
theorem dX4_coughByOrder_15 : decode cX4_coughByOrder 15 = .ok (.aaload, 1) := by decide +kernel
theorem dX4_coughByOrder_16 : decode cX4_coughByOrder 16 = .ok (.getfield 103, 3) := by decide +kernel
theorem dX4_coughByOrder_19 : decode cX4_coughByOrder 19 = .ok (.iconst 2, 1) := by decide +kernel
theorem dX4_coughByOrder_20 : decode cX4_coughByOrder 20 = .ok (.if_icmp .ne 6, 3) := by decide +kernel
theorem dX4_coughByOrder_23 : decode cX4_coughByOrder 23 = .ok (.bipush (-5), 2) := by decide +kernel
theorem dX4_coughByOrder_25 : decode cX4_coughByOrder 25 = .ok (.ireturn, 1) := by decide +kernel
theorem dX4_coughByOrder_26 : decode cX4_coughByOrder 26 = .ok (.aload_n 0, 1) := by decide +kernel
theorem dX4_coughByOrder_27 : decode cX4_coughByOrder 27 = .ok (.invokevirtual 109, 3) := by decide +kernel
theorem dX4_coughByOrder_30 : decode cX4_coughByOrder 30 = .ok (.aload_n 0, 1) := by decide +kernel
theorem dX4_coughByOrder_31 : decode cX4_coughByOrder 31 = .ok (.iload_n 1, 1) := by decide +kernel
theorem dX4_coughByOrder_32 : decode cX4_coughByOrder 32 = .ok (.iconst 0, 1) := by decide +kernel
theorem dX4_coughByOrder_33 : decode cX4_coughByOrder 33 = .ok (.invokevirtual 112, 3) := by decide +kernel
theorem dX4_coughByOrder_36 : decode cX4_coughByOrder 36 = .ok (.ireturn, 1) := by decide +kernel
theorem dX4_letPass_0 : decode cX4_letPass 0 = .ok (.iload_n 1, 1) := by decide +kernel
theorem dX4_letPass_1 : decode cX4_letPass 1 = .ok (.invokestatic 115, 3) := by decide +kernel
theorem dX4_letPass_4 : decode cX4_letPass 4 = .ok (.ifCond .ne 6, 3) := by decide +kernel
theorem dX4_letPass_7 : decode cX4_letPass 7 = .ok (.bipush (-2), 2) := by decide +kernel
theorem dX4_letPass_9 : decode cX4_letPass 9 = .ok (.ireturn, 1) := by decide +kernel
theorem dX4_letPass_10 : decode cX4_letPass 10 = .ok (.iconst 0, 1) := by decide +kernel
theorem dX4_letPass_11 : decode cX4_letPass 11 = .ok (.istore_n 2, 1) := by decide +kernel
theorem dX4_letPass_12 : decode cX4_letPass 12 = .ok (.iload_n 2, 1) := by decide +kernel
theorem dX4_letPass_13 : decode cX4_letPass 13 = .ok (.iload_n 1, 1) := by decide +kernel
theorem dX4_letPass_14 : decode cX4_letPass 14 = .ok (.if_icmp .ge 43, 3) := by decide +kernel
theorem dX4_letPass_17 : decode cX4_letPass 17 = .ok (.aload_n 0, 1) := by decide +kernel
theorem dX4_letPass_18 : decode cX4_letPass 18 = .ok (.invokevirtual 109, 3) := by decide +kernel
theorem dX4_letPass_21 : decode cX4_letPass 21 = .ok (.aload_n 0, 1) := by decide +kernel
theorem dX4_letPass_22 : decode cX4_letPass 22 = .ok (.invokevirtual 118, 3) := by decide +kernel
theorem dX4_letPass_25 : decode cX4_letPass 25 = .ok (.aload_n 0, 1) := by decide +kernel
theorem dX4_letPass_26 : decode cX4_letPass 26 = .ok (.invokevirtual 121, 3) := by decide +kernel
theorem dX4_letPass_29 : decode cX4_letPass 29 = .ok (.aload_n 0, 1) := by decide +kernel
theorem dX4_letPass_30 : decode cX4_letPass 30 = .ok (.invokevirtual 124, 3) := by decide +kernel
theorem dX4_letPass_33 : decode cX4_letPass 33 = .ok (.aload_n 0, 1) := by decide +kernel
theorem dX4_letPass_34 : decode cX4_letPass 34 = .ok (.invokevirtual 127, 3) := by decide +kernel
theorem dX4_letPass_37 : decode cX4_letPass 37 = .ok (.aload_n 0, 1) := by decide +kernel
theorem dX4_letPass_38 : decode cX4_letPass 38 = .ok (.invokevirtual 130, 3) := by decide +kernel
theorem dX4_letPass_41 : decode cX4_letPass 41 = .ok (.aload_n 0, 1) := by decide +kernel
theorem dX4_letPass_42 : decode cX4_letPass 42 = .ok (.dup, 1) := by decide +kernel
theorem dX4_letPass_43 : decode cX4_letPass 43 = .ok (.getfield 65, 3) := by decide +kernel
theorem dX4_letPass_46 : decode cX4_letPass 46 = .ok (.iconst 1, 1) := by decide +kernel
theorem dX4_letPass_47 : decode cX4_letPass 47 = .ok (.iadd, 1) := by decide +kernel
theorem dX4_letPass_48 : decode cX4_letPass 48 = .ok (.putfield 65, 3) := by decide +kernel
theorem dX4_letPass_51 : decode cX4_letPass 51 = .ok (.iinc 2 1, 3) := by decide +kernel
theorem dX4_letPass_54 : decode cX4_letPass 54 = .ok (.goto (-42), 3) := by decide +kernel
theorem dX4_letPass_57 : decode cX4_letPass 57 = .ok (.aload_n 0, 1) := by decide +kernel
theorem dX4_letPass_58 : decode cX4_letPass 58 = .ok (.getfield 65, 3) := by decide +kernel
theorem dX4_letPass_61 : decode cX4_letPass 61 = .ok (.ireturn, 1) := by decide +kernel
theorem dX4_forgetLastTick_0 : decode cX4_forgetLastTick 0 = .ok (.iconst 0, 1) := by decide +kernel
theorem dX4_forgetLastTick_1 : decode cX4_forgetLastTick 1 = .ok (.istore_n 1, 1) := by decide +kernel
theorem dX4_forgetLastTick_2 : decode cX4_forgetLastTick 2 = .ok (.iload_n 1, 1) := by decide +kernel
theorem dX4_forgetLastTick_3 : decode cX4_forgetLastTick 3 = .ok (.aload_n 0, 1) := by decide +kernel
theorem dX4_forgetLastTick_4 : decode cX4_forgetLastTick 4 = .ok (.getfield 45, 3) := by decide +kernel
theorem dX4_forgetLastTick_7 : decode cX4_forgetLastTick 7 = .ok (.if_icmp .ge 18, 3) := by decide +kernel
theorem dX4_forgetLastTick_10 : decode cX4_forgetLastTick 10 = .ok (.aload_n 0, 1) := by decide +kernel
theorem dX4_forgetLastTick_11 : decode cX4_forgetLastTick 11 = .ok (.getfield 17, 3) := by decide +kernel
theorem dX4_forgetLastTick_14 : decode cX4_forgetLastTick 14 = .ok (.iload_n 1, 1) := by decide +kernel
theorem dX4_forgetLastTick_15 : decode cX4_forgetLastTick 15 = .ok (.aaload, 1) := by decide +kernel
theorem dX4_forgetLastTick_16 : decode cX4_forgetLastTick 16 = .ok (.invokevirtual 133, 3) := by decide +kernel
theorem dX4_forgetLastTick_19 : decode cX4_forgetLastTick 19 = .ok (.iinc 1 1, 3) := by decide +kernel
theorem dX4_forgetLastTick_22 : decode cX4_forgetLastTick 22 = .ok (.goto (-20), 3) := by decide +kernel
theorem dX4_forgetLastTick_25 : decode cX4_forgetLastTick 25 = .ok (.return_, 1) := by decide +kernel
theorem dX4_moveWalkers_0 : decode cX4_moveWalkers 0 = .ok (.iconst 0, 1) := by decide +kernel
theorem dX4_moveWalkers_1 : decode cX4_moveWalkers 1 = .ok (.istore_n 1, 1) := by decide +kernel
theorem dX4_moveWalkers_2 : decode cX4_moveWalkers 2 = .ok (.iload_n 1, 1) := by decide +kernel
theorem dX4_moveWalkers_3 : decode cX4_moveWalkers 3 = .ok (.aload_n 0, 1) := by decide +kernel
theorem dX4_moveWalkers_4 : decode cX4_moveWalkers 4 = .ok (.getfield 59, 3) := by decide +kernel
theorem dX4_moveWalkers_7 : decode cX4_moveWalkers 7 = .ok (.if_icmp .ge 18, 3) := by decide +kernel
theorem dX4_moveWalkers_10 : decode cX4_moveWalkers 10 = .ok (.aload_n 0, 1) := by decide +kernel
theorem dX4_moveWalkers_11 : decode cX4_moveWalkers 11 = .ok (.getfield 29, 3) := by decide +kernel
theorem dX4_moveWalkers_14 : decode cX4_moveWalkers 14 = .ok (.iload_n 1, 1) := by decide +kernel
theorem dX4_moveWalkers_15 : decode cX4_moveWalkers 15 = .ok (.aaload, 1) := by decide +kernel
theorem dX4_moveWalkers_16 : decode cX4_moveWalkers 16 = .ok (.invokevirtual 136, 3) := by decide +kernel
theorem dX4_moveWalkers_19 : decode cX4_moveWalkers 19 = .ok (.iinc 1 1, 3) := by decide +kernel
theorem dX4_moveWalkers_22 : decode cX4_moveWalkers 22 = .ok (.goto (-20), 3) := by decide +kernel
theorem dX4_moveWalkers_25 : decode cX4_moveWalkers 25 = .ok (.return_, 1) := by decide +kernel
theorem dX4_coughThoseWhoWaited_0 : decode cX4_coughThoseWhoWaited 0 = .ok (.iconst 0, 1) := by decide +kernel
theorem dX4_coughThoseWhoWaited_1 : decode cX4_coughThoseWhoWaited 1 = .ok (.istore_n 1, 1) := by decide +kernel
theorem dX4_coughThoseWhoWaited_2 : decode cX4_coughThoseWhoWaited 2 = .ok (.iconst 0, 1) := by decide +kernel
theorem dX4_coughThoseWhoWaited_3 : decode cX4_coughThoseWhoWaited 3 = .ok (.istore_n 2, 1) := by decide +kernel
theorem dX4_coughThoseWhoWaited_4 : decode cX4_coughThoseWhoWaited 4 = .ok (.iload_n 2, 1) := by decide +kernel
theorem dX4_coughThoseWhoWaited_5 : decode cX4_coughThoseWhoWaited 5 = .ok (.aload_n 0, 1) := by decide +kernel
theorem dX4_coughThoseWhoWaited_6 : decode cX4_coughThoseWhoWaited 6 = .ok (.getfield 45, 3) := by decide +kernel
theorem dX4_coughThoseWhoWaited_9 : decode cX4_coughThoseWhoWaited 9 = .ok (.if_icmp .ge 55, 3) := by decide +kernel
theorem dX4_coughThoseWhoWaited_12 : decode cX4_coughThoseWhoWaited 12 = .ok (.aload_n 0, 1) := by decide +kernel
theorem dX4_coughThoseWhoWaited_13 : decode cX4_coughThoseWhoWaited 13 = .ok (.getfield 17, 3) := by decide +kernel
theorem dX4_coughThoseWhoWaited_16 : decode cX4_coughThoseWhoWaited 16 = .ok (.iload_n 2, 1) := by decide +kernel
theorem dX4_coughThoseWhoWaited_17 : decode cX4_coughThoseWhoWaited 17 = .ok (.aaload, 1) := by decide +kernel
theorem dX4_coughThoseWhoWaited_18 : decode cX4_coughThoseWhoWaited 18 = .ok (.astore_n 3, 1) := by decide +kernel
theorem dX4_coughThoseWhoWaited_19 : decode cX4_coughThoseWhoWaited 19 = .ok (.aload_n 3, 1) := by decide +kernel
theorem dX4_coughThoseWhoWaited_20 : decode cX4_coughThoseWhoWaited 20 = .ok (.getfield 139, 3) := by decide +kernel
theorem dX4_coughThoseWhoWaited_23 : decode cX4_coughThoseWhoWaited 23 = .ok (.bipush (-6), 2) := by decide +kernel
theorem dX4_coughThoseWhoWaited_25 : decode cX4_coughThoseWhoWaited 25 = .ok (.if_icmp .ne 6, 3) := by decide +kernel
theorem dX4_coughThoseWhoWaited_28 : decode cX4_coughThoseWhoWaited 28 = .ok (.goto 30, 3) := by decide +kernel
theorem dX4_coughThoseWhoWaited_31 : decode cX4_coughThoseWhoWaited 31 = .ok (.aload_n 3, 1) := by decide +kernel
theorem dX4_coughThoseWhoWaited_32 : decode cX4_coughThoseWhoWaited 32 = .ok (.dup, 1) := by decide +kernel
theorem dX4_coughThoseWhoWaited_33 : decode cX4_coughThoseWhoWaited 33 = .ok (.getfield 139, 3) := by decide +kernel
theorem dX4_coughThoseWhoWaited_36 : decode cX4_coughThoseWhoWaited 36 = .ok (.iconst 1, 1) := by decide +kernel
theorem dX4_coughThoseWhoWaited_37 : decode cX4_coughThoseWhoWaited 37 = .ok (.isub, 1) := by decide +kernel
theorem dX4_coughThoseWhoWaited_38 : decode cX4_coughThoseWhoWaited 38 = .ok (.putfield 139, 3) := by decide +kernel
theorem dX4_coughThoseWhoWaited_41 : decode cX4_coughThoseWhoWaited 41 = .ok (.aload_n 3, 1) := by decide +kernel
theorem dX4_coughThoseWhoWaited_42 : decode cX4_coughThoseWhoWaited 42 = .ok (.getfield 139, 3) := by decide +kernel
theorem dX4_coughThoseWhoWaited_45 : decode cX4_coughThoseWhoWaited 45 = .ok (.ifCond .gt 13, 3) := by decide +kernel
theorem dX4_coughThoseWhoWaited_48 : decode cX4_coughThoseWhoWaited 48 = .ok (.aload_n 3, 1) := by decide +kernel
theorem dX4_coughThoseWhoWaited_49 : decode cX4_coughThoseWhoWaited 49 = .ok (.invokevirtual 142, 3) := by decide +kernel
theorem dX4_coughThoseWhoWaited_52 : decode cX4_coughThoseWhoWaited 52 = .ok (.iload_n 1, 1) := by decide +kernel
theorem dX4_coughThoseWhoWaited_53 : decode cX4_coughThoseWhoWaited 53 = .ok (.iconst 1, 1) := by decide +kernel
theorem dX4_coughThoseWhoWaited_54 : decode cX4_coughThoseWhoWaited 54 = .ok (.iload_n 2, 1) := by decide +kernel
theorem dX4_coughThoseWhoWaited_55 : decode cX4_coughThoseWhoWaited 55 = .ok (.ishl, 1) := by decide +kernel
theorem dX4_coughThoseWhoWaited_56 : decode cX4_coughThoseWhoWaited 56 = .ok (.ior, 1) := by decide +kernel
theorem dX4_coughThoseWhoWaited_57 : decode cX4_coughThoseWhoWaited 57 = .ok (.istore_n 1, 1) := by decide +kernel
theorem dX4_coughThoseWhoWaited_58 : decode cX4_coughThoseWhoWaited 58 = .ok (.iinc 2 1, 3) := by decide +kernel
theorem dX4_coughThoseWhoWaited_61 : decode cX4_coughThoseWhoWaited 61 = .ok (.goto (-57), 3) := by decide +kernel
theorem dX4_coughThoseWhoWaited_64 : decode cX4_coughThoseWhoWaited 64 = .ok (.iconst 0, 1) := by decide +kernel
theorem dX4_coughThoseWhoWaited_65 : decode cX4_coughThoseWhoWaited 65 = .ok (.istore_n 2, 1) := by decide +kernel
theorem dX4_coughThoseWhoWaited_66 : decode cX4_coughThoseWhoWaited 66 = .ok (.iload_n 2, 1) := by decide +kernel
theorem dX4_coughThoseWhoWaited_67 : decode cX4_coughThoseWhoWaited 67 = .ok (.aload_n 0, 1) := by decide +kernel
theorem dX4_coughThoseWhoWaited_68 : decode cX4_coughThoseWhoWaited 68 = .ok (.getfield 45, 3) := by decide +kernel
theorem dX4_coughThoseWhoWaited_71 : decode cX4_coughThoseWhoWaited 71 = .ok (.if_icmp .ge 33, 3) := by decide +kernel
theorem dX4_coughThoseWhoWaited_74 : decode cX4_coughThoseWhoWaited 74 = .ok (.iload_n 1, 1) := by decide +kernel
theorem dX4_coughThoseWhoWaited_75 : decode cX4_coughThoseWhoWaited 75 = .ok (.iload_n 2, 1) := by decide +kernel
theorem dX4_coughThoseWhoWaited_76 : decode cX4_coughThoseWhoWaited 76 = .ok (.ishr, 1) := by decide +kernel
theorem dX4_coughThoseWhoWaited_77 : decode cX4_coughThoseWhoWaited 77 = .ok (.iconst 1, 1) := by decide +kernel
theorem dX4_coughThoseWhoWaited_78 : decode cX4_coughThoseWhoWaited 78 = .ok (.iand, 1) := by decide +kernel
theorem dX4_coughThoseWhoWaited_79 : decode cX4_coughThoseWhoWaited 79 = .ok (.iconst 1, 1) := by decide +kernel
theorem dX4_coughThoseWhoWaited_80 : decode cX4_coughThoseWhoWaited 80 = .ok (.if_icmp .ne 18, 3) := by decide +kernel
theorem dX4_coughThoseWhoWaited_83 : decode cX4_coughThoseWhoWaited 83 = .ok (.aload_n 0, 1) := by decide +kernel
theorem dX4_coughThoseWhoWaited_84 : decode cX4_coughThoseWhoWaited 84 = .ok (.iload_n 2, 1) := by decide +kernel
theorem dX4_coughThoseWhoWaited_85 : decode cX4_coughThoseWhoWaited 85 = .ok (.aload_n 0, 1) := by decide +kernel
theorem dX4_coughThoseWhoWaited_86 : decode cX4_coughThoseWhoWaited 86 = .ok (.getfield 17, 3) := by decide +kernel
theorem dX4_coughThoseWhoWaited_89 : decode cX4_coughThoseWhoWaited 89 = .ok (.iload_n 2, 1) := by decide +kernel
theorem dX4_coughThoseWhoWaited_90 : decode cX4_coughThoseWhoWaited 90 = .ok (.aaload, 1) := by decide +kernel
theorem dX4_coughThoseWhoWaited_91 : decode cX4_coughThoseWhoWaited 91 = .ok (.getfield 145, 3) := by decide +kernel
theorem dX4_coughThoseWhoWaited_94 : decode cX4_coughThoseWhoWaited 94 = .ok (.invokevirtual 112, 3) := by decide +kernel
theorem dX4_coughThoseWhoWaited_97 : decode cX4_coughThoseWhoWaited 97 = .ok (.pop, 1) := by decide +kernel
theorem dX4_coughThoseWhoWaited_98 : decode cX4_coughThoseWhoWaited 98 = .ok (.iinc 2 1, 3) := by decide +kernel
theorem dX4_coughThoseWhoWaited_101 : decode cX4_coughThoseWhoWaited 101 = .ok (.goto (-35), 3) := by decide +kernel
theorem dX4_coughThoseWhoWaited_104 : decode cX4_coughThoseWhoWaited 104 = .ok (.return_, 1) := by decide +kernel
theorem dX4_wakeThoseWhoSee_0 : decode cX4_wakeThoseWhoSee 0 = .ok (.aload_n 0, 1) := by decide +kernel
theorem dX4_wakeThoseWhoSee_1 : decode cX4_wakeThoseWhoSee 1 = .ok (.iconst 2, 1) := by decide +kernel
theorem dX4_wakeThoseWhoSee_2 : decode cX4_wakeThoseWhoSee 2 = .ok (.invokevirtual 148, 3) := by decide +kernel
theorem dX4_wakeThoseWhoSee_5 : decode cX4_wakeThoseWhoSee 5 = .ok (.istore_n 1, 1) := by decide +kernel
theorem dX4_wakeThoseWhoSee_6 : decode cX4_wakeThoseWhoSee 6 = .ok (.iconst 0, 1) := by decide +kernel
theorem dX4_wakeThoseWhoSee_7 : decode cX4_wakeThoseWhoSee 7 = .ok (.istore_n 2, 1) := by decide +kernel
theorem dX4_wakeThoseWhoSee_8 : decode cX4_wakeThoseWhoSee 8 = .ok (.iload_n 2, 1) := by decide +kernel
theorem dX4_wakeThoseWhoSee_9 : decode cX4_wakeThoseWhoSee 9 = .ok (.aload_n 0, 1) := by decide +kernel
theorem dX4_wakeThoseWhoSee_10 : decode cX4_wakeThoseWhoSee 10 = .ok (.getfield 45, 3) := by decide +kernel
theorem dX4_wakeThoseWhoSee_13 : decode cX4_wakeThoseWhoSee 13 = .ok (.if_icmp .ge 64, 3) := by decide +kernel
theorem dX4_wakeThoseWhoSee_16 : decode cX4_wakeThoseWhoSee 16 = .ok (.aload_n 0, 1) := by decide +kernel
theorem dX4_wakeThoseWhoSee_17 : decode cX4_wakeThoseWhoSee 17 = .ok (.aload_n 0, 1) := by decide +kernel
theorem dX4_wakeThoseWhoSee_18 : decode cX4_wakeThoseWhoSee 18 = .ok (.getfield 17, 3) := by decide +kernel
theorem dX4_wakeThoseWhoSee_21 : decode cX4_wakeThoseWhoSee 21 = .ok (.iload_n 2, 1) := by decide +kernel
theorem dX4_wakeThoseWhoSee_22 : decode cX4_wakeThoseWhoSee 22 = .ok (.aaload, 1) := by decide +kernel
theorem dX4_wakeThoseWhoSee_23 : decode cX4_wakeThoseWhoSee 23 = .ok (.invokevirtual 152, 3) := by decide +kernel
theorem dX4_wakeThoseWhoSee_26 : decode cX4_wakeThoseWhoSee 26 = .ok (.ifCond .ne 6, 3) := by decide +kernel
theorem dX4_wakeThoseWhoSee_29 : decode cX4_wakeThoseWhoSee 29 = .ok (.goto 42, 3) := by decide +kernel
theorem dX4_wakeThoseWhoSee_32 : decode cX4_wakeThoseWhoSee 32 = .ok (.aload_n 0, 1) := by decide +kernel
theorem dX4_wakeThoseWhoSee_33 : decode cX4_wakeThoseWhoSee 33 = .ok (.getfield 17, 3) := by decide +kernel
theorem dX4_wakeThoseWhoSee_36 : decode cX4_wakeThoseWhoSee 36 = .ok (.iload_n 2, 1) := by decide +kernel
theorem dX4_wakeThoseWhoSee_37 : decode cX4_wakeThoseWhoSee 37 = .ok (.aaload, 1) := by decide +kernel
theorem dX4_wakeThoseWhoSee_38 : decode cX4_wakeThoseWhoSee 38 = .ok (.aload_n 0, 1) := by decide +kernel
theorem dX4_wakeThoseWhoSee_39 : decode cX4_wakeThoseWhoSee 39 = .ok (.getfield 9, 3) := by decide +kernel
theorem dX4_wakeThoseWhoSee_42 : decode cX4_wakeThoseWhoSee 42 = .ok (.iconst 2, 1) := by decide +kernel
theorem dX4_wakeThoseWhoSee_43 : decode cX4_wakeThoseWhoSee 43 = .ok (.iaload, 1) := by decide +kernel
theorem dX4_wakeThoseWhoSee_44 : decode cX4_wakeThoseWhoSee 44 = .ok (.invokevirtual 156, 3) := by decide +kernel
theorem dX4_wakeThoseWhoSee_47 : decode cX4_wakeThoseWhoSee 47 = .ok (.iload_n 1, 1) := by decide +kernel
theorem dX4_wakeThoseWhoSee_48 : decode cX4_wakeThoseWhoSee 48 = .ok (.iload_n 2, 1) := by decide +kernel
theorem dX4_wakeThoseWhoSee_49 : decode cX4_wakeThoseWhoSee 49 = .ok (.ishr, 1) := by decide +kernel
theorem dX4_wakeThoseWhoSee_50 : decode cX4_wakeThoseWhoSee 50 = .ok (.iconst 1, 1) := by decide +kernel
theorem dX4_wakeThoseWhoSee_51 : decode cX4_wakeThoseWhoSee 51 = .ok (.iand, 1) := by decide +kernel
theorem dX4_wakeThoseWhoSee_52 : decode cX4_wakeThoseWhoSee 52 = .ok (.ifCond .ne 19, 3) := by decide +kernel
theorem dX4_wakeThoseWhoSee_55 : decode cX4_wakeThoseWhoSee 55 = .ok (.aload_n 0, 1) := by decide +kernel
theorem dX4_wakeThoseWhoSee_56 : decode cX4_wakeThoseWhoSee 56 = .ok (.getfield 17, 3) := by decide +kernel
theorem dX4_wakeThoseWhoSee_59 : decode cX4_wakeThoseWhoSee 59 = .ok (.iload_n 2, 1) := by decide +kernel
theorem dX4_wakeThoseWhoSee_60 : decode cX4_wakeThoseWhoSee 60 = .ok (.aaload, 1) := by decide +kernel
theorem dX4_wakeThoseWhoSee_61 : decode cX4_wakeThoseWhoSee 61 = .ok (.invokevirtual 142, 3) := by decide +kernel
theorem dX4_wakeThoseWhoSee_64 : decode cX4_wakeThoseWhoSee 64 = .ok (.aload_n 0, 1) := by decide +kernel
theorem dX4_wakeThoseWhoSee_65 : decode cX4_wakeThoseWhoSee 65 = .ok (.iload_n 2, 1) := by decide +kernel
theorem dX4_wakeThoseWhoSee_66 : decode cX4_wakeThoseWhoSee 66 = .ok (.iconst 0, 1) := by decide +kernel
theorem dX4_wakeThoseWhoSee_67 : decode cX4_wakeThoseWhoSee 67 = .ok (.invokevirtual 112, 3) := by decide +kernel
theorem dX4_wakeThoseWhoSee_70 : decode cX4_wakeThoseWhoSee 70 = .ok (.pop, 1) := by decide +kernel
theorem dX4_wakeThoseWhoSee_71 : decode cX4_wakeThoseWhoSee 71 = .ok (.iinc 2 1, 3) := by decide +kernel
theorem dX4_wakeThoseWhoSee_74 : decode cX4_wakeThoseWhoSee 74 = .ok (.goto (-66), 3) := by decide +kernel
theorem dX4_wakeThoseWhoSee_77 : decode cX4_wakeThoseWhoSee 77 = .ok (.return_, 1) := by decide +kernel
theorem dX4_seesWalker_0 : decode cX4_seesWalker 0 = .ok (.aload_n 1, 1) := by decide +kernel
theorem dX4_seesWalker_1 : decode cX4_seesWalker 1 = .ok (.getfield 103, 3) := by decide +kernel
theorem dX4_seesWalker_4 : decode cX4_seesWalker 4 = .ok (.ifCond .eq 5, 3) := by decide +kernel
theorem dX4_seesWalker_7 : decode cX4_seesWalker 7 = .ok (.iconst 0, 1) := by decide +kernel
theorem dX4_seesWalker_8 : decode cX4_seesWalker 8 = .ok (.ireturn, 1) := by decide +kernel
theorem dX4_seesWalker_9 : decode cX4_seesWalker 9 = .ok (.iconst 0, 1) := by decide +kernel
theorem dX4_seesWalker_10 : decode cX4_seesWalker 10 = .ok (.istore_n 2, 1) := by decide +kernel
theorem dX4_seesWalker_11 : decode cX4_seesWalker 11 = .ok (.iload_n 2, 1) := by decide +kernel
theorem dX4_seesWalker_12 : decode cX4_seesWalker 12 = .ok (.aload_n 0, 1) := by decide +kernel
theorem dX4_seesWalker_13 : decode cX4_seesWalker 13 = .ok (.getfield 59, 3) := by decide +kernel
theorem dX4_seesWalker_16 : decode cX4_seesWalker 16 = .ok (.if_icmp .ge 45, 3) := by decide +kernel
theorem dX4_seesWalker_19 : decode cX4_seesWalker 19 = .ok (.aload_n 0, 1) := by decide +kernel
theorem dX4_seesWalker_20 : decode cX4_seesWalker 20 = .ok (.getfield 29, 3) := by decide +kernel
theorem dX4_seesWalker_23 : decode cX4_seesWalker 23 = .ok (.iload_n 2, 1) := by decide +kernel
theorem dX4_seesWalker_24 : decode cX4_seesWalker 24 = .ok (.aaload, 1) := by decide +kernel
theorem dX4_seesWalker_25 : decode cX4_seesWalker 25 = .ok (.getfield 159, 3) := by decide +kernel
theorem dX4_seesWalker_28 : decode cX4_seesWalker 28 = .ok (.ifCond .ne 27, 3) := by decide +kernel
theorem dX4_seesWalker_31 : decode cX4_seesWalker 31 = .ok (.aload_n 1, 1) := by decide +kernel
theorem dX4_seesWalker_32 : decode cX4_seesWalker 32 = .ok (.aload_n 0, 1) := by decide +kernel
theorem dX4_seesWalker_33 : decode cX4_seesWalker 33 = .ok (.getfield 29, 3) := by decide +kernel
theorem dX4_seesWalker_36 : decode cX4_seesWalker 36 = .ok (.iload_n 2, 1) := by decide +kernel
theorem dX4_seesWalker_37 : decode cX4_seesWalker 37 = .ok (.aaload, 1) := by decide +kernel
theorem dX4_seesWalker_38 : decode cX4_seesWalker 38 = .ok (.getfield 163, 3) := by decide +kernel
theorem dX4_seesWalker_41 : decode cX4_seesWalker 41 = .ok (.invokevirtual 164, 3) := by decide +kernel
theorem dX4_seesWalker_44 : decode cX4_seesWalker 44 = .ok (.aload_n 0, 1) := by decide +kernel
theorem dX4_seesWalker_45 : decode cX4_seesWalker 45 = .ok (.getfield 9, 3) := by decide +kernel
theorem dX4_seesWalker_48 : decode cX4_seesWalker 48 = .ok (.iconst 0, 1) := by decide +kernel
theorem dX4_seesWalker_49 : decode cX4_seesWalker 49 = .ok (.iaload, 1) := by decide +kernel
theorem dX4_seesWalker_50 : decode cX4_seesWalker 50 = .ok (.if_icmp .gt 5, 3) := by decide +kernel
theorem dX4_seesWalker_53 : decode cX4_seesWalker 53 = .ok (.iconst 1, 1) := by decide +kernel
theorem dX4_seesWalker_54 : decode cX4_seesWalker 54 = .ok (.ireturn, 1) := by decide +kernel
theorem dX4_seesWalker_55 : decode cX4_seesWalker 55 = .ok (.iinc 2 1, 3) := by decide +kernel
theorem dX4_seesWalker_58 : decode cX4_seesWalker 58 = .ok (.goto (-47), 3) := by decide +kernel
theorem dX4_seesWalker_61 : decode cX4_seesWalker 61 = .ok (.iconst 0, 1) := by decide +kernel
theorem dX4_seesWalker_62 : decode cX4_seesWalker 62 = .ok (.ireturn, 1) := by decide +kernel
theorem dX4_fadeLamps_0 : decode cX4_fadeLamps 0 = .ok (.iconst 0, 1) := by decide +kernel
theorem dX4_fadeLamps_1 : decode cX4_fadeLamps 1 = .ok (.istore_n 1, 1) := by decide +kernel
theorem dX4_fadeLamps_2 : decode cX4_fadeLamps 2 = .ok (.iload_n 1, 1) := by decide +kernel
theorem dX4_fadeLamps_3 : decode cX4_fadeLamps 3 = .ok (.aload_n 0, 1) := by decide +kernel
theorem dX4_fadeLamps_4 : decode cX4_fadeLamps 4 = .ok (.getfield 45, 3) := by decide +kernel
theorem dX4_fadeLamps_7 : decode cX4_fadeLamps 7 = .ok (.if_icmp .ge 24, 3) := by decide +kernel
theorem dX4_fadeLamps_10 : decode cX4_fadeLamps 10 = .ok (.aload_n 0, 1) := by decide +kernel
theorem dX4_fadeLamps_11 : decode cX4_fadeLamps 11 = .ok (.getfield 17, 3) := by decide +kernel
theorem dX4_fadeLamps_14 : decode cX4_fadeLamps 14 = .ok (.iload_n 1, 1) := by decide +kernel
theorem dX4_fadeLamps_15 : decode cX4_fadeLamps 15 = .ok (.aaload, 1) := by decide +kernel
theorem dX4_fadeLamps_16 : decode cX4_fadeLamps 16 = .ok (.aload_n 0, 1) := by decide +kernel
theorem dX4_fadeLamps_17 : decode cX4_fadeLamps 17 = .ok (.getfield 9, 3) := by decide +kernel
theorem dX4_fadeLamps_20 : decode cX4_fadeLamps 20 = .ok (.iconst 3, 1) := by decide +kernel
theorem dX4_fadeLamps_21 : decode cX4_fadeLamps 21 = .ok (.iaload, 1) := by decide +kernel
theorem dX4_fadeLamps_22 : decode cX4_fadeLamps 22 = .ok (.invokevirtual 167, 3) := by decide +kernel
theorem dX4_fadeLamps_25 : decode cX4_fadeLamps 25 = .ok (.iinc 1 1, 3) := by decide +kernel
theorem dX4_fadeLamps_28 : decode cX4_fadeLamps 28 = .ok (.goto (-26), 3) := by decide +kernel
theorem dX4_fadeLamps_31 : decode cX4_fadeLamps 31 = .ok (.return_, 1) := by decide +kernel
theorem dX4_tally_0 : decode cX4_tally 0 = .ok (.iconst 0, 1) := by decide +kernel
theorem dX4_tally_1 : decode cX4_tally 1 = .ok (.istore_n 1, 1) := by decide +kernel
theorem dX4_tally_2 : decode cX4_tally 2 = .ok (.iload_n 1, 1) := by decide +kernel
theorem dX4_tally_3 : decode cX4_tally 3 = .ok (.aload_n 0, 1) := by decide +kernel
theorem dX4_tally_4 : decode cX4_tally 4 = .ok (.getfield 45, 3) := by decide +kernel
theorem dX4_tally_7 : decode cX4_tally 7 = .ok (.if_icmp .ge 18, 3) := by decide +kernel
theorem dX4_tally_10 : decode cX4_tally 10 = .ok (.aload_n 0, 1) := by decide +kernel
theorem dX4_tally_11 : decode cX4_tally 11 = .ok (.getfield 17, 3) := by decide +kernel
theorem dX4_tally_14 : decode cX4_tally 14 = .ok (.iload_n 1, 1) := by decide +kernel
theorem dX4_tally_15 : decode cX4_tally 15 = .ok (.aaload, 1) := by decide +kernel
theorem dX4_tally_16 : decode cX4_tally 16 = .ok (.invokevirtual 170, 3) := by decide +kernel
theorem dX4_tally_19 : decode cX4_tally 19 = .ok (.iinc 1 1, 3) := by decide +kernel
theorem dX4_tally_22 : decode cX4_tally 22 = .ok (.goto (-20), 3) := by decide +kernel
theorem dX4_tally_25 : decode cX4_tally 25 = .ok (.iconst 0, 1) := by decide +kernel
theorem dX4_tally_26 : decode cX4_tally 26 = .ok (.istore_n 1, 1) := by decide +kernel
theorem dX4_tally_27 : decode cX4_tally 27 = .ok (.iload_n 1, 1) := by decide +kernel
theorem dX4_tally_28 : decode cX4_tally 28 = .ok (.aload_n 0, 1) := by decide +kernel
theorem dX4_tally_29 : decode cX4_tally 29 = .ok (.getfield 59, 3) := by decide +kernel
theorem dX4_tally_32 : decode cX4_tally 32 = .ok (.if_icmp .ge 52, 3) := by decide +kernel
theorem dX4_tally_35 : decode cX4_tally 35 = .ok (.aload_n 0, 1) := by decide +kernel
theorem dX4_tally_36 : decode cX4_tally 36 = .ok (.getfield 29, 3) := by decide +kernel
theorem dX4_tally_39 : decode cX4_tally 39 = .ok (.iload_n 1, 1) := by decide +kernel
theorem dX4_tally_40 : decode cX4_tally 40 = .ok (.aaload, 1) := by decide +kernel
theorem dX4_tally_41 : decode cX4_tally 41 = .ok (.astore_n 2, 1) := by decide +kernel
theorem dX4_tally_42 : decode cX4_tally 42 = .ok (.aload_n 2, 1) := by decide +kernel
theorem dX4_tally_43 : decode cX4_tally 43 = .ok (.getfield 159, 3) := by decide +kernel
theorem dX4_tally_46 : decode cX4_tally 46 = .ok (.ifCond .ne 32, 3) := by decide +kernel
theorem dX4_tally_49 : decode cX4_tally 49 = .ok (.aload_n 0, 1) := by decide +kernel
theorem dX4_tally_50 : decode cX4_tally 50 = .ok (.aload_n 2, 1) := by decide +kernel
theorem dX4_tally_51 : decode cX4_tally 51 = .ok (.getfield 163, 3) := by decide +kernel
theorem dX4_tally_54 : decode cX4_tally 54 = .ok (.invokevirtual 173, 3) := by decide +kernel
theorem dX4_tally_57 : decode cX4_tally 57 = .ok (.ifCond .ne 21, 3) := by decide +kernel
theorem dX4_tally_60 : decode cX4_tally 60 = .ok (.aload_n 2, 1) := by decide +kernel
theorem dX4_tally_61 : decode cX4_tally 61 = .ok (.dup, 1) := by decide +kernel
theorem dX4_tally_62 : decode cX4_tally 62 = .ok (.getfield 176, 3) := by decide +kernel
theorem dX4_tally_65 : decode cX4_tally 65 = .ok (.iconst 1, 1) := by decide +kernel
theorem dX4_tally_66 : decode cX4_tally 66 = .ok (.iadd, 1) := by decide +kernel
theorem dX4_tally_67 : decode cX4_tally 67 = .ok (.putfield 176, 3) := by decide +kernel
theorem dX4_tally_70 : decode cX4_tally 70 = .ok (.aload_n 0, 1) := by decide +kernel
theorem dX4_tally_71 : decode cX4_tally 71 = .ok (.aload_n 2, 1) := by decide +kernel
theorem dX4_tally_72 : decode cX4_tally 72 = .ok (.getfield 163, 3) := by decide +kernel
theorem dX4_tally_75 : decode cX4_tally 75 = .ok (.invokevirtual 179, 3) := by decide +kernel
theorem dX4_tally_78 : decode cX4_tally 78 = .ok (.iinc 1 1, 3) := by decide +kernel
theorem dX4_tally_81 : decode cX4_tally 81 = .ok (.goto (-54), 3) := by decide +kernel
theorem dX4_tally_84 : decode cX4_tally 84 = .ok (.iconst 0, 1) := by decide +kernel
theorem dX4_tally_85 : decode cX4_tally 85 = .ok (.istore_n 1, 1) := by decide +kernel
theorem dX4_tally_86 : decode cX4_tally 86 = .ok (.iload_n 1, 1) := by decide +kernel
theorem dX4_tally_87 : decode cX4_tally 87 = .ok (.aload_n 0, 1) := by decide +kernel
theorem dX4_tally_88 : decode cX4_tally 88 = .ok (.getfield 53, 3) := by decide +kernel
theorem dX4_tally_91 : decode cX4_tally 91 = .ok (.if_icmp .ge 37, 3) := by decide +kernel
theorem dX4_tally_94 : decode cX4_tally 94 = .ok (.aload_n 0, 1) := by decide +kernel
theorem dX4_tally_95 : decode cX4_tally 95 = .ok (.aload_n 0, 1) := by decide +kernel
theorem dX4_tally_96 : decode cX4_tally 96 = .ok (.getfield 23, 3) := by decide +kernel
theorem dX4_tally_99 : decode cX4_tally 99 = .ok (.iload_n 1, 1) := by decide +kernel
theorem dX4_tally_100 : decode cX4_tally 100 = .ok (.aaload, 1) := by decide +kernel
theorem dX4_tally_101 : decode cX4_tally 101 = .ok (.invokevirtual 182, 3) := by decide +kernel
theorem dX4_tally_104 : decode cX4_tally 104 = .ok (.ifCond .eq 18, 3) := by decide +kernel
theorem dX4_tally_107 : decode cX4_tally 107 = .ok (.aload_n 0, 1) := by decide +kernel
theorem dX4_tally_108 : decode cX4_tally 108 = .ok (.getfield 23, 3) := by decide +kernel
theorem dX4_tally_111 : decode cX4_tally 111 = .ok (.iload_n 1, 1) := by decide +kernel
theorem dX4_tally_112 : decode cX4_tally 112 = .ok (.aaload, 1) := by decide +kernel
theorem dX4_tally_113 : decode cX4_tally 113 = .ok (.dup, 1) := by decide +kernel
theorem dX4_tally_114 : decode cX4_tally 114 = .ok (.getfield 186, 3) := by decide +kernel
theorem dX4_tally_117 : decode cX4_tally 117 = .ok (.iconst 1, 1) := by decide +kernel
theorem dX4_tally_118 : decode cX4_tally 118 = .ok (.iadd, 1) := by decide +kernel
theorem dX4_tally_119 : decode cX4_tally 119 = .ok (.putfield 186, 3) := by decide +kernel
theorem dX4_tally_122 : decode cX4_tally 122 = .ok (.iinc 1 1, 3) := by decide +kernel
theorem dX4_tally_125 : decode cX4_tally 125 = .ok (.goto (-39), 3) := by decide +kernel
theorem dX4_tally_128 : decode cX4_tally 128 = .ok (.return_, 1) := by decide +kernel
theorem dX4_blameNearest_0 : decode cX4_blameNearest 0 = .ok (.aload_n 0, 1) := by decide +kernel
theorem dX4_blameNearest_1 : decode cX4_blameNearest 1 = .ok (.getfield 45, 3) := by decide +kernel
theorem dX4_blameNearest_4 : decode cX4_blameNearest 4 = .ok (.ifCond .ne 4, 3) := by decide +kernel
theorem dX4_blameNearest_7 : decode cX4_blameNearest 7 = .ok (.return_, 1) := by decide +kernel
theorem dX4_blameNearest_8 : decode cX4_blameNearest 8 = .ok (.aload_n 0, 1) := by decide +kernel
theorem dX4_blameNearest_9 : decode cX4_blameNearest 9 = .ok (.getfield 17, 3) := by decide +kernel
theorem dX4_blameNearest_12 : decode cX4_blameNearest 12 = .ok (.iconst 0, 1) := by decide +kernel
theorem dX4_blameNearest_13 : decode cX4_blameNearest 13 = .ok (.aaload, 1) := by decide +kernel
theorem dX4_blameNearest_14 : decode cX4_blameNearest 14 = .ok (.astore_n 2, 1) := by decide +kernel
theorem dX4_blameNearest_15 : decode cX4_blameNearest 15 = .ok (.iconst 1, 1) := by decide +kernel
theorem dX4_blameNearest_16 : decode cX4_blameNearest 16 = .ok (.istore_n 3, 1) := by decide +kernel
theorem dX4_blameNearest_17 : decode cX4_blameNearest 17 = .ok (.iload_n 3, 1) := by decide +kernel
theorem dX4_blameNearest_18 : decode cX4_blameNearest 18 = .ok (.aload_n 0, 1) := by decide +kernel
theorem dX4_blameNearest_19 : decode cX4_blameNearest 19 = .ok (.getfield 45, 3) := by decide +kernel
theorem dX4_blameNearest_22 : decode cX4_blameNearest 22 = .ok (.if_icmp .ge 34, 3) := by decide +kernel
theorem dX4_blameNearest_25 : decode cX4_blameNearest 25 = .ok (.aload_n 0, 1) := by decide +kernel
theorem dX4_blameNearest_26 : decode cX4_blameNearest 26 = .ok (.getfield 17, 3) := by decide +kernel
theorem dX4_blameNearest_29 : decode cX4_blameNearest 29 = .ok (.iload_n 3, 1) := by decide +kernel
theorem dX4_blameNearest_30 : decode cX4_blameNearest 30 = .ok (.aaload, 1) := by decide +kernel
theorem dX4_blameNearest_31 : decode cX4_blameNearest 31 = .ok (.iload_n 1, 1) := by decide +kernel
theorem dX4_blameNearest_32 : decode cX4_blameNearest 32 = .ok (.invokevirtual 164, 3) := by decide +kernel
theorem dX4_blameNearest_35 : decode cX4_blameNearest 35 = .ok (.aload_n 2, 1) := by decide +kernel
theorem dX4_blameNearest_36 : decode cX4_blameNearest 36 = .ok (.iload_n 1, 1) := by decide +kernel
theorem dX4_blameNearest_37 : decode cX4_blameNearest 37 = .ok (.invokevirtual 164, 3) := by decide +kernel
theorem dX4_blameNearest_40 : decode cX4_blameNearest 40 = .ok (.if_icmp .ge 10, 3) := by decide +kernel
theorem dX4_blameNearest_43 : decode cX4_blameNearest 43 = .ok (.aload_n 0, 1) := by decide +kernel
theorem dX4_blameNearest_44 : decode cX4_blameNearest 44 = .ok (.getfield 17, 3) := by decide +kernel
theorem dX4_blameNearest_47 : decode cX4_blameNearest 47 = .ok (.iload_n 3, 1) := by decide +kernel
theorem dX4_blameNearest_48 : decode cX4_blameNearest 48 = .ok (.aaload, 1) := by decide +kernel
theorem dX4_blameNearest_49 : decode cX4_blameNearest 49 = .ok (.astore_n 2, 1) := by decide +kernel
theorem dX4_blameNearest_50 : decode cX4_blameNearest 50 = .ok (.iinc 3 1, 3) := by decide +kernel
theorem dX4_blameNearest_53 : decode cX4_blameNearest 53 = .ok (.goto (-36), 3) := by decide +kernel
theorem dX4_blameNearest_56 : decode cX4_blameNearest 56 = .ok (.aload_n 2, 1) := by decide +kernel
theorem dX4_blameNearest_57 : decode cX4_blameNearest 57 = .ok (.dup, 1) := by decide +kernel
theorem dX4_blameNearest_58 : decode cX4_blameNearest 58 = .ok (.getfield 189, 3) := by decide +kernel
theorem dX4_blameNearest_61 : decode cX4_blameNearest 61 = .ok (.iconst 1, 1) := by decide +kernel
theorem dX4_blameNearest_62 : decode cX4_blameNearest 62 = .ok (.iadd, 1) := by decide +kernel
theorem dX4_blameNearest_63 : decode cX4_blameNearest 63 = .ok (.putfield 189, 3) := by decide +kernel
theorem dX4_blameNearest_66 : decode cX4_blameNearest 66 = .ok (.return_, 1) := by decide +kernel
theorem dX4_spreadCough_0 : decode cX4_spreadCough 0 = .ok (.aload_n 0, 1) := by decide +kernel
theorem dX4_spreadCough_1 : decode cX4_spreadCough 1 = .ok (.getfield 17, 3) := by decide +kernel
theorem dX4_spreadCough_4 : decode cX4_spreadCough 4 = .ok (.iload_n 1, 1) := by decide +kernel
theorem dX4_spreadCough_5 : decode cX4_spreadCough 5 = .ok (.aaload, 1) := by decide +kernel
theorem dX4_spreadCough_6 : decode cX4_spreadCough 6 = .ok (.dup, 1) := by decide +kernel
theorem dX4_spreadCough_7 : decode cX4_spreadCough 7 = .ok (.getfield 192, 3) := by decide +kernel
theorem dX4_spreadCough_10 : decode cX4_spreadCough 10 = .ok (.iconst 1, 1) := by decide +kernel
theorem dX4_spreadCough_11 : decode cX4_spreadCough 11 = .ok (.iadd, 1) := by decide +kernel
theorem dX4_spreadCough_12 : decode cX4_spreadCough 12 = .ok (.putfield 192, 3) := by decide +kernel
theorem dX4_spreadCough_15 : decode cX4_spreadCough 15 = .ok (.iconst 0, 1) := by decide +kernel
theorem dX4_spreadCough_16 : decode cX4_spreadCough 16 = .ok (.istore_n 3, 1) := by decide +kernel
theorem dX4_spreadCough_17 : decode cX4_spreadCough 17 = .ok (.iconst 0, 1) := by decide +kernel
theorem dX4_spreadCough_18 : decode cX4_spreadCough 18 = .ok (.istore 4, 2) := by decide +kernel
theorem dX4_spreadCough_20 : decode cX4_spreadCough 20 = .ok (.iload 4, 2) := by decide +kernel
theorem dX4_spreadCough_22 : decode cX4_spreadCough 22 = .ok (.aload_n 0, 1) := by decide +kernel
theorem dX4_spreadCough_23 : decode cX4_spreadCough 23 = .ok (.getfield 45, 3) := by decide +kernel
theorem dX4_spreadCough_26 : decode cX4_spreadCough 26 = .ok (.if_icmp .ge 37, 3) := by decide +kernel
theorem dX4_spreadCough_29 : decode cX4_spreadCough 29 = .ok (.aload_n 0, 1) := by decide +kernel
theorem dX4_spreadCough_30 : decode cX4_spreadCough 30 = .ok (.iload 4, 2) := by decide +kernel
theorem dX4_spreadCough_32 : decode cX4_spreadCough 32 = .ok (.iload_n 1, 1) := by decide +kernel
theorem dX4_spreadCough_33 : decode cX4_spreadCough 33 = .ok (.invokevirtual 195, 3) := by decide +kernel
theorem dX4_spreadCough_36 : decode cX4_spreadCough 36 = .ok (.ifCond .eq 21, 3) := by decide +kernel
theorem dX4_spreadCough_39 : decode cX4_spreadCough 39 = .ok (.aload_n 0, 1) := by decide +kernel
theorem dX4_spreadCough_40 : decode cX4_spreadCough 40 = .ok (.getfield 17, 3) := by decide +kernel
theorem dX4_spreadCough_43 : decode cX4_spreadCough 43 = .ok (.iload 4, 2) := by decide +kernel
theorem dX4_spreadCough_45 : decode cX4_spreadCough 45 = .ok (.aaload, 1) := by decide +kernel
theorem dX4_spreadCough_46 : decode cX4_spreadCough 46 = .ok (.iload_n 2, 1) := by decide +kernel
theorem dX4_spreadCough_47 : decode cX4_spreadCough 47 = .ok (.aload_n 0, 1) := by decide +kernel
theorem dX4_spreadCough_48 : decode cX4_spreadCough 48 = .ok (.getfield 9, 3) := by decide +kernel
theorem dX4_spreadCough_51 : decode cX4_spreadCough 51 = .ok (.invokevirtual 199, 3) := by decide +kernel
theorem dX4_spreadCough_54 : decode cX4_spreadCough 54 = .ok (.iinc 3 1, 3) := by decide +kernel
theorem dX4_spreadCough_57 : decode cX4_spreadCough 57 = .ok (.iinc 4 1, 3) := by decide +kernel
theorem dX4_spreadCough_60 : decode cX4_spreadCough 60 = .ok (.goto (-40), 3) := by decide +kernel
theorem dX4_spreadCough_63 : decode cX4_spreadCough 63 = .ok (.iload_n 3, 1) := by decide +kernel
theorem dX4_spreadCough_64 : decode cX4_spreadCough 64 = .ok (.ireturn, 1) := by decide +kernel
theorem dX4_hears_0 : decode cX4_hears 0 = .ok (.iload_n 1, 1) := by decide +kernel
theorem dX4_hears_1 : decode cX4_hears 1 = .ok (.iload_n 2, 1) := by decide +kernel
theorem dX4_hears_2 : decode cX4_hears 2 = .ok (.if_icmp .eq 47, 3) := by decide +kernel
theorem dX4_hears_5 : decode cX4_hears 5 = .ok (.aload_n 0, 1) := by decide +kernel
theorem dX4_hears_6 : decode cX4_hears 6 = .ok (.getfield 17, 3) := by decide +kernel
theorem dX4_hears_9 : decode cX4_hears 9 = .ok (.iload_n 1, 1) := by decide +kernel
theorem dX4_hears_10 : decode cX4_hears 10 = .ok (.aaload, 1) := by decide +kernel
theorem dX4_hears_11 : decode cX4_hears 11 = .ok (.getfield 103, 3) := by decide +kernel
theorem dX4_hears_14 : decode cX4_hears 14 = .ok (.iconst 2, 1) := by decide +kernel
theorem dX4_hears_15 : decode cX4_hears 15 = .ok (.if_icmp .eq 34, 3) := by decide +kernel
theorem dX4_hears_18 : decode cX4_hears 18 = .ok (.aload_n 0, 1) := by decide +kernel
theorem dX4_hears_19 : decode cX4_hears 19 = .ok (.getfield 17, 3) := by decide +kernel
theorem dX4_hears_22 : decode cX4_hears 22 = .ok (.iload_n 1, 1) := by decide +kernel
theorem dX4_hears_23 : decode cX4_hears 23 = .ok (.aaload, 1) := by decide +kernel
theorem dX4_hears_24 : decode cX4_hears 24 = .ok (.aload_n 0, 1) := by decide +kernel
theorem dX4_hears_25 : decode cX4_hears 25 = .ok (.getfield 17, 3) := by decide +kernel
theorem dX4_hears_28 : decode cX4_hears 28 = .ok (.iload_n 2, 1) := by decide +kernel
theorem dX4_hears_29 : decode cX4_hears 29 = .ok (.aaload, 1) := by decide +kernel
theorem dX4_hears_30 : decode cX4_hears 30 = .ok (.getfield 82, 3) := by decide +kernel
theorem dX4_hears_33 : decode cX4_hears 33 = .ok (.invokevirtual 164, 3) := by decide +kernel
theorem dX4_hears_36 : decode cX4_hears 36 = .ok (.aload_n 0, 1) := by decide +kernel
theorem dX4_hears_37 : decode cX4_hears 37 = .ok (.getfield 9, 3) := by decide +kernel
theorem dX4_hears_40 : decode cX4_hears 40 = .ok (.iconst 1, 1) := by decide +kernel
theorem dX4_hears_41 : decode cX4_hears 41 = .ok (.iaload, 1) := by decide +kernel
theorem dX4_hears_42 : decode cX4_hears 42 = .ok (.if_icmp .gt 7, 3) := by decide +kernel
theorem dX4_hears_45 : decode cX4_hears 45 = .ok (.iconst 1, 1) := by decide +kernel
theorem dX4_hears_46 : decode cX4_hears 46 = .ok (.goto 4, 3) := by decide +kernel
theorem dX4_hears_49 : decode cX4_hears 49 = .ok (.iconst 0, 1) := by decide +kernel
theorem dX4_hears_50 : decode cX4_hears 50 = .ok (.ireturn, 1) := by decide +kernel
theorem dX4_lampsThatHear_0 : decode cX4_lampsThatHear 0 = .ok (.iconst 0, 1) := by decide +kernel
theorem dX4_lampsThatHear_1 : decode cX4_lampsThatHear 1 = .ok (.istore_n 2, 1) := by decide +kernel
theorem dX4_lampsThatHear_2 : decode cX4_lampsThatHear 2 = .ok (.iconst 0, 1) := by decide +kernel
theorem dX4_lampsThatHear_3 : decode cX4_lampsThatHear 3 = .ok (.istore_n 3, 1) := by decide +kernel
theorem dX4_lampsThatHear_4 : decode cX4_lampsThatHear 4 = .ok (.iload_n 3, 1) := by decide +kernel
theorem dX4_lampsThatHear_5 : decode cX4_lampsThatHear 5 = .ok (.aload_n 0, 1) := by decide +kernel
theorem dX4_lampsThatHear_6 : decode cX4_lampsThatHear 6 = .ok (.getfield 45, 3) := by decide +kernel
theorem dX4_lampsThatHear_9 : decode cX4_lampsThatHear 9 = .ok (.if_icmp .ge 37, 3) := by decide +kernel
theorem dX4_lampsThatHear_12 : decode cX4_lampsThatHear 12 = .ok (.aload_n 0, 1) := by decide +kernel
theorem dX4_lampsThatHear_13 : decode cX4_lampsThatHear 13 = .ok (.getfield 17, 3) := by decide +kernel
theorem dX4_lampsThatHear_16 : decode cX4_lampsThatHear 16 = .ok (.iload_n 1, 1) := by decide +kernel
theorem dX4_lampsThatHear_17 : decode cX4_lampsThatHear 17 = .ok (.aaload, 1) := by decide +kernel
theorem dX4_lampsThatHear_18 : decode cX4_lampsThatHear 18 = .ok (.getfield 103, 3) := by decide +kernel
theorem dX4_lampsThatHear_21 : decode cX4_lampsThatHear 21 = .ok (.iconst 2, 1) := by decide +kernel
theorem dX4_lampsThatHear_22 : decode cX4_lampsThatHear 22 = .ok (.if_icmp .eq 18, 3) := by decide +kernel
theorem dX4_lampsThatHear_25 : decode cX4_lampsThatHear 25 = .ok (.aload_n 0, 1) := by decide +kernel
theorem dX4_lampsThatHear_26 : decode cX4_lampsThatHear 26 = .ok (.iload_n 3, 1) := by decide +kernel
theorem dX4_lampsThatHear_27 : decode cX4_lampsThatHear 27 = .ok (.iload_n 1, 1) := by decide +kernel
theorem dX4_lampsThatHear_28 : decode cX4_lampsThatHear 28 = .ok (.invokevirtual 195, 3) := by decide +kernel
theorem dX4_lampsThatHear_31 : decode cX4_lampsThatHear 31 = .ok (.ifCond .eq 9, 3) := by decide +kernel
theorem dX4_lampsThatHear_34 : decode cX4_lampsThatHear 34 = .ok (.iload_n 2, 1) := by decide +kernel
theorem dX4_lampsThatHear_35 : decode cX4_lampsThatHear 35 = .ok (.iconst 1, 1) := by decide +kernel
theorem dX4_lampsThatHear_36 : decode cX4_lampsThatHear 36 = .ok (.iload_n 3, 1) := by decide +kernel
theorem dX4_lampsThatHear_37 : decode cX4_lampsThatHear 37 = .ok (.ishl, 1) := by decide +kernel
theorem dX4_lampsThatHear_38 : decode cX4_lampsThatHear 38 = .ok (.ior, 1) := by decide +kernel
theorem dX4_lampsThatHear_39 : decode cX4_lampsThatHear 39 = .ok (.istore_n 2, 1) := by decide +kernel
theorem dX4_lampsThatHear_40 : decode cX4_lampsThatHear 40 = .ok (.iinc 3 1, 3) := by decide +kernel
theorem dX4_lampsThatHear_43 : decode cX4_lampsThatHear 43 = .ok (.goto (-39), 3) := by decide +kernel
theorem dX4_lampsThatHear_46 : decode cX4_lampsThatHear 46 = .ok (.iload_n 2, 1) := by decide +kernel
theorem dX4_lampsThatHear_47 : decode cX4_lampsThatHear 47 = .ok (.ireturn, 1) := by decide +kernel
theorem dX4_hasLampsApart_0 : decode cX4_hasLampsApart 0 = .ok (.iconst 0, 1) := by decide +kernel
theorem dX4_hasLampsApart_1 : decode cX4_hasLampsApart 1 = .ok (.istore_n 2, 1) := by decide +kernel
theorem dX4_hasLampsApart_2 : decode cX4_hasLampsApart 2 = .ok (.iload_n 2, 1) := by decide +kernel
theorem dX4_hasLampsApart_3 : decode cX4_hasLampsApart 3 = .ok (.aload_n 0, 1) := by decide +kernel
theorem dX4_hasLampsApart_4 : decode cX4_hasLampsApart 4 = .ok (.getfield 45, 3) := by decide +kernel
theorem dX4_hasLampsApart_7 : decode cX4_hasLampsApart 7 = .ok (.if_icmp .ge 46, 3) := by decide +kernel
theorem dX4_hasLampsApart_10 : decode cX4_hasLampsApart 10 = .ok (.iconst 0, 1) := by decide +kernel
theorem dX4_hasLampsApart_11 : decode cX4_hasLampsApart 11 = .ok (.istore_n 3, 1) := by decide +kernel
theorem dX4_hasLampsApart_12 : decode cX4_hasLampsApart 12 = .ok (.iload_n 3, 1) := by decide +kernel
theorem dX4_hasLampsApart_13 : decode cX4_hasLampsApart 13 = .ok (.iload_n 2, 1) := by decide +kernel
theorem dX4_hasLampsApart_14 : decode cX4_hasLampsApart 14 = .ok (.if_icmp .ge 33, 3) := by decide +kernel
theorem dX4_hasLampsApart_17 : decode cX4_hasLampsApart 17 = .ok (.aload_n 0, 1) := by decide +kernel
theorem dX4_hasLampsApart_18 : decode cX4_hasLampsApart 18 = .ok (.getfield 17, 3) := by decide +kernel
theorem dX4_hasLampsApart_21 : decode cX4_hasLampsApart 21 = .ok (.iload_n 2, 1) := by decide +kernel
theorem dX4_hasLampsApart_22 : decode cX4_hasLampsApart 22 = .ok (.aaload, 1) := by decide +kernel
theorem dX4_hasLampsApart_23 : decode cX4_hasLampsApart 23 = .ok (.aload_n 0, 1) := by decide +kernel
theorem dX4_hasLampsApart_24 : decode cX4_hasLampsApart 24 = .ok (.getfield 17, 3) := by decide +kernel
theorem dX4_hasLampsApart_27 : decode cX4_hasLampsApart 27 = .ok (.iload_n 3, 1) := by decide +kernel
theorem dX4_hasLampsApart_28 : decode cX4_hasLampsApart 28 = .ok (.aaload, 1) := by decide +kernel
theorem dX4_hasLampsApart_29 : decode cX4_hasLampsApart 29 = .ok (.getfield 82, 3) := by decide +kernel
theorem dX4_hasLampsApart_32 : decode cX4_hasLampsApart 32 = .ok (.invokevirtual 164, 3) := by decide +kernel
theorem dX4_hasLampsApart_35 : decode cX4_hasLampsApart 35 = .ok (.iload_n 1, 1) := by decide +kernel
theorem dX4_hasLampsApart_36 : decode cX4_hasLampsApart 36 = .ok (.if_icmp .ne 5, 3) := by decide +kernel
theorem dX4_hasLampsApart_39 : decode cX4_hasLampsApart 39 = .ok (.iconst 1, 1) := by decide +kernel
theorem dX4_hasLampsApart_40 : decode cX4_hasLampsApart 40 = .ok (.ireturn, 1) := by decide +kernel
theorem dX4_hasLampsApart_41 : decode cX4_hasLampsApart 41 = .ok (.iinc 3 1, 3) := by decide +kernel
theorem dX4_hasLampsApart_44 : decode cX4_hasLampsApart 44 = .ok (.goto (-32), 3) := by decide +kernel
theorem dX4_hasLampsApart_47 : decode cX4_hasLampsApart 47 = .ok (.iinc 2 1, 3) := by decide +kernel
theorem dX4_hasLampsApart_50 : decode cX4_hasLampsApart 50 = .ok (.goto (-48), 3) := by decide +kernel
theorem dX4_hasLampsApart_53 : decode cX4_hasLampsApart 53 = .ok (.iconst 0, 1) := by decide +kernel
theorem dX4_hasLampsApart_54 : decode cX4_hasLampsApart 54 = .ok (.ireturn, 1) := by decide +kernel
theorem dX4_lampsThatAre_0 : decode cX4_lampsThatAre 0 = .ok (.iconst 0, 1) := by decide +kernel
theorem dX4_lampsThatAre_1 : decode cX4_lampsThatAre 1 = .ok (.istore_n 2, 1) := by decide +kernel
theorem dX4_lampsThatAre_2 : decode cX4_lampsThatAre 2 = .ok (.iconst 0, 1) := by decide +kernel
theorem dX4_lampsThatAre_3 : decode cX4_lampsThatAre 3 = .ok (.istore_n 3, 1) := by decide +kernel
theorem dX4_lampsThatAre_4 : decode cX4_lampsThatAre 4 = .ok (.iload_n 3, 1) := by decide +kernel
theorem dX4_lampsThatAre_5 : decode cX4_lampsThatAre 5 = .ok (.aload_n 0, 1) := by decide +kernel
theorem dX4_lampsThatAre_6 : decode cX4_lampsThatAre 6 = .ok (.getfield 45, 3) := by decide +kernel
theorem dX4_lampsThatAre_9 : decode cX4_lampsThatAre 9 = .ok (.if_icmp .ge 28, 3) := by decide +kernel
theorem dX4_lampsThatAre_12 : decode cX4_lampsThatAre 12 = .ok (.aload_n 0, 1) := by decide +kernel
theorem dX4_lampsThatAre_13 : decode cX4_lampsThatAre 13 = .ok (.getfield 17, 3) := by decide +kernel
theorem dX4_lampsThatAre_16 : decode cX4_lampsThatAre 16 = .ok (.iload_n 3, 1) := by decide +kernel
theorem dX4_lampsThatAre_17 : decode cX4_lampsThatAre 17 = .ok (.aaload, 1) := by decide +kernel
theorem dX4_lampsThatAre_18 : decode cX4_lampsThatAre 18 = .ok (.getfield 203, 3) := by decide +kernel
theorem dX4_lampsThatAre_21 : decode cX4_lampsThatAre 21 = .ok (.iload_n 1, 1) := by decide +kernel
theorem dX4_lampsThatAre_22 : decode cX4_lampsThatAre 22 = .ok (.if_icmp .ne 9, 3) := by decide +kernel
theorem dX4_lampsThatAre_25 : decode cX4_lampsThatAre 25 = .ok (.iload_n 2, 1) := by decide +kernel
theorem dX4_lampsThatAre_26 : decode cX4_lampsThatAre 26 = .ok (.iconst 1, 1) := by decide +kernel
theorem dX4_lampsThatAre_27 : decode cX4_lampsThatAre 27 = .ok (.iload_n 3, 1) := by decide +kernel
theorem dX4_lampsThatAre_28 : decode cX4_lampsThatAre 28 = .ok (.ishl, 1) := by decide +kernel
theorem dX4_lampsThatAre_29 : decode cX4_lampsThatAre 29 = .ok (.ior, 1) := by decide +kernel
theorem dX4_lampsThatAre_30 : decode cX4_lampsThatAre 30 = .ok (.istore_n 2, 1) := by decide +kernel
end
section
theorem dX4_lampsThatAre_31 : decode cX4_lampsThatAre 31 = .ok (.iinc 3 1, 3) := by decide +kernel
theorem dX4_lampsThatAre_34 : decode cX4_lampsThatAre 34 = .ok (.goto (-30), 3) := by decide +kernel
theorem dX4_lampsThatAre_37 : decode cX4_lampsThatAre 37 = .ok (.iload_n 2, 1) := by decide +kernel
theorem dX4_lampsThatAre_38 : decode cX4_lampsThatAre 38 = .ok (.ireturn, 1) := by decide +kernel
theorem dX4_lampsThatLight_0 : decode cX4_lampsThatLight 0 = .ok (.iconst 0, 1) := by decide +kernel
theorem dX4_lampsThatLight_1 : decode cX4_lampsThatLight 1 = .ok (.istore_n 2, 1) := by decide +kernel
theorem dX4_lampsThatLight_2 : decode cX4_lampsThatLight 2 = .ok (.iconst 0, 1) := by decide +kernel
theorem dX4_lampsThatLight_3 : decode cX4_lampsThatLight 3 = .ok (.istore_n 3, 1) := by decide +kernel
theorem dX4_lampsThatLight_4 : decode cX4_lampsThatLight 4 = .ok (.iload_n 3, 1) := by decide +kernel
theorem dX4_lampsThatLight_5 : decode cX4_lampsThatLight 5 = .ok (.aload_n 0, 1) := by decide +kernel
theorem dX4_lampsThatLight_6 : decode cX4_lampsThatLight 6 = .ok (.getfield 45, 3) := by decide +kernel
theorem dX4_lampsThatLight_9 : decode cX4_lampsThatLight 9 = .ok (.if_icmp .ge 28, 3) := by decide +kernel
theorem dX4_lampsThatLight_12 : decode cX4_lampsThatLight 12 = .ok (.aload_n 0, 1) := by decide +kernel
theorem dX4_lampsThatLight_13 : decode cX4_lampsThatLight 13 = .ok (.getfield 17, 3) := by decide +kernel
theorem dX4_lampsThatLight_16 : decode cX4_lampsThatLight 16 = .ok (.iload_n 3, 1) := by decide +kernel
theorem dX4_lampsThatLight_17 : decode cX4_lampsThatLight 17 = .ok (.aaload, 1) := by decide +kernel
theorem dX4_lampsThatLight_18 : decode cX4_lampsThatLight 18 = .ok (.iload_n 1, 1) := by decide +kernel
theorem dX4_lampsThatLight_19 : decode cX4_lampsThatLight 19 = .ok (.invokevirtual 206, 3) := by decide +kernel
theorem dX4_lampsThatLight_22 : decode cX4_lampsThatLight 22 = .ok (.ifCond .eq 9, 3) := by decide +kernel
theorem dX4_lampsThatLight_25 : decode cX4_lampsThatLight 25 = .ok (.iload_n 2, 1) := by decide +kernel
theorem dX4_lampsThatLight_26 : decode cX4_lampsThatLight 26 = .ok (.iconst 1, 1) := by decide +kernel
theorem dX4_lampsThatLight_27 : decode cX4_lampsThatLight 27 = .ok (.iload_n 3, 1) := by decide +kernel
theorem dX4_lampsThatLight_28 : decode cX4_lampsThatLight 28 = .ok (.ishl, 1) := by decide +kernel
theorem dX4_lampsThatLight_29 : decode cX4_lampsThatLight 29 = .ok (.ior, 1) := by decide +kernel
theorem dX4_lampsThatLight_30 : decode cX4_lampsThatLight 30 = .ok (.istore_n 2, 1) := by decide +kernel
theorem dX4_lampsThatLight_31 : decode cX4_lampsThatLight 31 = .ok (.iinc 3 1, 3) := by decide +kernel
theorem dX4_lampsThatLight_34 : decode cX4_lampsThatLight 34 = .ok (.goto (-30), 3) := by decide +kernel
theorem dX4_lampsThatLight_37 : decode cX4_lampsThatLight 37 = .ok (.iload_n 2, 1) := by decide +kernel
theorem dX4_lampsThatLight_38 : decode cX4_lampsThatLight 38 = .ok (.ireturn, 1) := by decide +kernel
theorem dX4_walkersInStreet_0 : decode cX4_walkersInStreet 0 = .ok (.iconst 0, 1) := by decide +kernel
theorem dX4_walkersInStreet_1 : decode cX4_walkersInStreet 1 = .ok (.istore_n 1, 1) := by decide +kernel
theorem dX4_walkersInStreet_2 : decode cX4_walkersInStreet 2 = .ok (.iconst 0, 1) := by decide +kernel
theorem dX4_walkersInStreet_3 : decode cX4_walkersInStreet 3 = .ok (.istore_n 2, 1) := by decide +kernel
theorem dX4_walkersInStreet_4 : decode cX4_walkersInStreet 4 = .ok (.iload_n 2, 1) := by decide +kernel
theorem dX4_walkersInStreet_5 : decode cX4_walkersInStreet 5 = .ok (.aload_n 0, 1) := by decide +kernel
theorem dX4_walkersInStreet_6 : decode cX4_walkersInStreet 6 = .ok (.getfield 59, 3) := by decide +kernel
theorem dX4_walkersInStreet_9 : decode cX4_walkersInStreet 9 = .ok (.if_icmp .ge 24, 3) := by decide +kernel
theorem dX4_walkersInStreet_12 : decode cX4_walkersInStreet 12 = .ok (.aload_n 0, 1) := by decide +kernel
theorem dX4_walkersInStreet_13 : decode cX4_walkersInStreet 13 = .ok (.getfield 29, 3) := by decide +kernel
theorem dX4_walkersInStreet_16 : decode cX4_walkersInStreet 16 = .ok (.iload_n 2, 1) := by decide +kernel
theorem dX4_walkersInStreet_17 : decode cX4_walkersInStreet 17 = .ok (.aaload, 1) := by decide +kernel
theorem dX4_walkersInStreet_18 : decode cX4_walkersInStreet 18 = .ok (.getfield 159, 3) := by decide +kernel
theorem dX4_walkersInStreet_21 : decode cX4_walkersInStreet 21 = .ok (.ifCond .ne 6, 3) := by decide +kernel
theorem dX4_walkersInStreet_24 : decode cX4_walkersInStreet 24 = .ok (.iinc 1 1, 3) := by decide +kernel
theorem dX4_walkersInStreet_27 : decode cX4_walkersInStreet 27 = .ok (.iinc 2 1, 3) := by decide +kernel
theorem dX4_walkersInStreet_30 : decode cX4_walkersInStreet 30 = .ok (.goto (-26), 3) := by decide +kernel
theorem dX4_walkersInStreet_33 : decode cX4_walkersInStreet 33 = .ok (.iload_n 1, 1) := by decide +kernel
theorem dX4_walkersInStreet_34 : decode cX4_walkersInStreet 34 = .ok (.ireturn, 1) := by decide +kernel
theorem dX4_isDisturbed_0 : decode cX4_isDisturbed 0 = .ok (.iconst 0, 1) := by decide +kernel
theorem dX4_isDisturbed_1 : decode cX4_isDisturbed 1 = .ok (.istore_n 2, 1) := by decide +kernel
theorem dX4_isDisturbed_2 : decode cX4_isDisturbed 2 = .ok (.iload_n 2, 1) := by decide +kernel
theorem dX4_isDisturbed_3 : decode cX4_isDisturbed 3 = .ok (.aload_n 0, 1) := by decide +kernel
theorem dX4_isDisturbed_4 : decode cX4_isDisturbed 4 = .ok (.getfield 45, 3) := by decide +kernel
theorem dX4_isDisturbed_7 : decode cX4_isDisturbed 7 = .ok (.if_icmp .ge 27, 3) := by decide +kernel
theorem dX4_isDisturbed_10 : decode cX4_isDisturbed 10 = .ok (.aload_n 0, 1) := by decide +kernel
theorem dX4_isDisturbed_11 : decode cX4_isDisturbed 11 = .ok (.getfield 17, 3) := by decide +kernel
theorem dX4_isDisturbed_14 : decode cX4_isDisturbed 14 = .ok (.iload_n 2, 1) := by decide +kernel
theorem dX4_isDisturbed_15 : decode cX4_isDisturbed 15 = .ok (.aaload, 1) := by decide +kernel
theorem dX4_isDisturbed_16 : decode cX4_isDisturbed 16 = .ok (.aload_n 1, 1) := by decide +kernel
theorem dX4_isDisturbed_17 : decode cX4_isDisturbed 17 = .ok (.getfield 209, 3) := by decide +kernel
theorem dX4_isDisturbed_20 : decode cX4_isDisturbed 20 = .ok (.invokevirtual 210, 3) := by decide +kernel
theorem dX4_isDisturbed_23 : decode cX4_isDisturbed 23 = .ok (.ifCond .eq 5, 3) := by decide +kernel
theorem dX4_isDisturbed_26 : decode cX4_isDisturbed 26 = .ok (.iconst 1, 1) := by decide +kernel
theorem dX4_isDisturbed_27 : decode cX4_isDisturbed 27 = .ok (.ireturn, 1) := by decide +kernel
theorem dX4_isDisturbed_28 : decode cX4_isDisturbed 28 = .ok (.iinc 2 1, 3) := by decide +kernel
theorem dX4_isDisturbed_31 : decode cX4_isDisturbed 31 = .ok (.goto (-29), 3) := by decide +kernel
theorem dX4_isDisturbed_34 : decode cX4_isDisturbed 34 = .ok (.iconst 0, 1) := by decide +kernel
theorem dX4_isDisturbed_35 : decode cX4_isDisturbed 35 = .ok (.ireturn, 1) := by decide +kernel
theorem dX4_tellOfHouse_0 : decode cX4_tellOfHouse 0 = .ok (.iload_n 2, 1) := by decide +kernel
theorem dX4_tellOfHouse_1 : decode cX4_tellOfHouse 1 = .ok (.tableswitch 51 0 2 #[27, 32, 46], 27) := by decide +kernel
theorem dX4_tellOfHouse_28 : decode cX4_tellOfHouse 28 = .ok (.aload_n 1, 1) := by decide +kernel
theorem dX4_tellOfHouse_29 : decode cX4_tellOfHouse 29 = .ok (.getfield 209, 3) := by decide +kernel
theorem dX4_tellOfHouse_32 : decode cX4_tellOfHouse 32 = .ok (.ireturn, 1) := by decide +kernel
theorem dX4_tellOfHouse_33 : decode cX4_tellOfHouse 33 = .ok (.aload_n 0, 1) := by decide +kernel
theorem dX4_tellOfHouse_34 : decode cX4_tellOfHouse 34 = .ok (.aload_n 1, 1) := by decide +kernel
theorem dX4_tellOfHouse_35 : decode cX4_tellOfHouse 35 = .ok (.invokevirtual 182, 3) := by decide +kernel
theorem dX4_tellOfHouse_38 : decode cX4_tellOfHouse 38 = .ok (.ifCond .eq 7, 3) := by decide +kernel
theorem dX4_tellOfHouse_41 : decode cX4_tellOfHouse 41 = .ok (.iconst 1, 1) := by decide +kernel
theorem dX4_tellOfHouse_42 : decode cX4_tellOfHouse 42 = .ok (.goto 4, 3) := by decide +kernel
theorem dX4_tellOfHouse_45 : decode cX4_tellOfHouse 45 = .ok (.iconst 0, 1) := by decide +kernel
theorem dX4_tellOfHouse_46 : decode cX4_tellOfHouse 46 = .ok (.ireturn, 1) := by decide +kernel
theorem dX4_tellOfHouse_47 : decode cX4_tellOfHouse 47 = .ok (.aload_n 1, 1) := by decide +kernel
theorem dX4_tellOfHouse_48 : decode cX4_tellOfHouse 48 = .ok (.getfield 186, 3) := by decide +kernel
theorem dX4_tellOfHouse_51 : decode cX4_tellOfHouse 51 = .ok (.ireturn, 1) := by decide +kernel
theorem dX4_tellOfHouse_52 : decode cX4_tellOfHouse 52 = .ok (.bipush (-2), 2) := by decide +kernel
theorem dX4_tellOfHouse_54 : decode cX4_tellOfHouse 54 = .ok (.ireturn, 1) := by decide +kernel
theorem dX4_tellOfWalker_0 : decode cX4_tellOfWalker 0 = .ok (.iload_n 2, 1) := by decide +kernel
theorem dX4_tellOfWalker_1 : decode cX4_tellOfWalker 1 = .ok (.tableswitch 137 0 8 #[51, 56, 61, 74, 93, 98, 103, 108, 132], 51) := by decide +kernel
theorem dX4_tellOfWalker_52 : decode cX4_tellOfWalker 52 = .ok (.aload_n 1, 1) := by decide +kernel
theorem dX4_tellOfWalker_53 : decode cX4_tellOfWalker 53 = .ok (.getfield 163, 3) := by decide +kernel
theorem dX4_tellOfWalker_56 : decode cX4_tellOfWalker 56 = .ok (.ireturn, 1) := by decide +kernel
theorem dX4_tellOfWalker_57 : decode cX4_tellOfWalker 57 = .ok (.aload_n 1, 1) := by decide +kernel
theorem dX4_tellOfWalker_58 : decode cX4_tellOfWalker 58 = .ok (.getfield 213, 3) := by decide +kernel
theorem dX4_tellOfWalker_61 : decode cX4_tellOfWalker 61 = .ok (.ireturn, 1) := by decide +kernel
theorem dX4_tellOfWalker_62 : decode cX4_tellOfWalker 62 = .ok (.aload_n 1, 1) := by decide +kernel
theorem dX4_tellOfWalker_63 : decode cX4_tellOfWalker 63 = .ok (.getfield 159, 3) := by decide +kernel
theorem dX4_tellOfWalker_66 : decode cX4_tellOfWalker 66 = .ok (.ifCond .eq 7, 3) := by decide +kernel
theorem dX4_tellOfWalker_69 : decode cX4_tellOfWalker 69 = .ok (.iconst 1, 1) := by decide +kernel
theorem dX4_tellOfWalker_70 : decode cX4_tellOfWalker 70 = .ok (.goto 4, 3) := by decide +kernel
theorem dX4_tellOfWalker_73 : decode cX4_tellOfWalker 73 = .ok (.iconst 0, 1) := by decide +kernel
theorem dX4_tellOfWalker_74 : decode cX4_tellOfWalker 74 = .ok (.ireturn, 1) := by decide +kernel
theorem dX4_tellOfWalker_75 : decode cX4_tellOfWalker 75 = .ok (.aload_n 1, 1) := by decide +kernel
theorem dX4_tellOfWalker_76 : decode cX4_tellOfWalker 76 = .ok (.getfield 216, 3) := by decide +kernel
theorem dX4_tellOfWalker_79 : decode cX4_tellOfWalker 79 = .ok (.ifCond .le 12, 3) := by decide +kernel
theorem dX4_tellOfWalker_82 : decode cX4_tellOfWalker 82 = .ok (.aload_n 1, 1) := by decide +kernel
theorem dX4_tellOfWalker_83 : decode cX4_tellOfWalker 83 = .ok (.getfield 219, 3) := by decide +kernel
theorem dX4_tellOfWalker_86 : decode cX4_tellOfWalker 86 = .ok (.iconst 0, 1) := by decide +kernel
theorem dX4_tellOfWalker_87 : decode cX4_tellOfWalker 87 = .ok (.iaload, 1) := by decide +kernel
theorem dX4_tellOfWalker_88 : decode cX4_tellOfWalker 88 = .ok (.goto 5, 3) := by decide +kernel
theorem dX4_tellOfWalker_91 : decode cX4_tellOfWalker 91 = .ok (.bipush (-6), 2) := by decide +kernel
theorem dX4_tellOfWalker_93 : decode cX4_tellOfWalker 93 = .ok (.ireturn, 1) := by decide +kernel
theorem dX4_tellOfWalker_94 : decode cX4_tellOfWalker 94 = .ok (.aload_n 1, 1) := by decide +kernel
theorem dX4_tellOfWalker_95 : decode cX4_tellOfWalker 95 = .ok (.getfield 216, 3) := by decide +kernel
theorem dX4_tellOfWalker_98 : decode cX4_tellOfWalker 98 = .ok (.ireturn, 1) := by decide +kernel
theorem dX4_tellOfWalker_99 : decode cX4_tellOfWalker 99 = .ok (.aload_n 1, 1) := by decide +kernel
theorem dX4_tellOfWalker_100 : decode cX4_tellOfWalker 100 = .ok (.getfield 222, 3) := by decide +kernel
theorem dX4_tellOfWalker_103 : decode cX4_tellOfWalker 103 = .ok (.ireturn, 1) := by decide +kernel
theorem dX4_tellOfWalker_104 : decode cX4_tellOfWalker 104 = .ok (.aload_n 1, 1) := by decide +kernel
theorem dX4_tellOfWalker_105 : decode cX4_tellOfWalker 105 = .ok (.getfield 176, 3) := by decide +kernel
theorem dX4_tellOfWalker_108 : decode cX4_tellOfWalker 108 = .ok (.ireturn, 1) := by decide +kernel
theorem dX4_tellOfWalker_109 : decode cX4_tellOfWalker 109 = .ok (.aload_n 1, 1) := by decide +kernel
theorem dX4_tellOfWalker_110 : decode cX4_tellOfWalker 110 = .ok (.getfield 159, 3) := by decide +kernel
theorem dX4_tellOfWalker_113 : decode cX4_tellOfWalker 113 = .ok (.ifCond .ne 18, 3) := by decide +kernel
theorem dX4_tellOfWalker_116 : decode cX4_tellOfWalker 116 = .ok (.aload_n 0, 1) := by decide +kernel
theorem dX4_tellOfWalker_117 : decode cX4_tellOfWalker 117 = .ok (.aload_n 1, 1) := by decide +kernel
theorem dX4_tellOfWalker_118 : decode cX4_tellOfWalker 118 = .ok (.getfield 163, 3) := by decide +kernel
theorem dX4_tellOfWalker_121 : decode cX4_tellOfWalker 121 = .ok (.invokevirtual 173, 3) := by decide +kernel
theorem dX4_tellOfWalker_124 : decode cX4_tellOfWalker 124 = .ok (.ifCond .eq 7, 3) := by decide +kernel
theorem dX4_tellOfWalker_127 : decode cX4_tellOfWalker 127 = .ok (.iconst 1, 1) := by decide +kernel
theorem dX4_tellOfWalker_128 : decode cX4_tellOfWalker 128 = .ok (.goto 4, 3) := by decide +kernel
theorem dX4_tellOfWalker_131 : decode cX4_tellOfWalker 131 = .ok (.iconst 0, 1) := by decide +kernel
theorem dX4_tellOfWalker_132 : decode cX4_tellOfWalker 132 = .ok (.ireturn, 1) := by decide +kernel
theorem dX4_tellOfWalker_133 : decode cX4_tellOfWalker 133 = .ok (.aload_n 1, 1) := by decide +kernel
theorem dX4_tellOfWalker_134 : decode cX4_tellOfWalker 134 = .ok (.getfield 225, 3) := by decide +kernel
theorem dX4_tellOfWalker_137 : decode cX4_tellOfWalker 137 = .ok (.ireturn, 1) := by decide +kernel
theorem dX4_tellOfWalker_138 : decode cX4_tellOfWalker 138 = .ok (.bipush (-2), 2) := by decide +kernel
theorem dX4_tellOfWalker_140 : decode cX4_tellOfWalker 140 = .ok (.ireturn, 1) := by decide +kernel
theorem dX4_total_0 : decode cX4_total 0 = .ok (.iload_n 1, 1) := by decide +kernel
theorem dX4_total_1 : decode cX4_total 1 = .ok (.tableswitch 42 0 2 #[27, 32, 37], 27) := by decide +kernel
theorem dX4_total_28 : decode cX4_total 28 = .ok (.aload_n 0, 1) := by decide +kernel
theorem dX4_total_29 : decode cX4_total 29 = .ok (.invokevirtual 228, 3) := by decide +kernel
theorem dX4_total_32 : decode cX4_total 32 = .ok (.ireturn, 1) := by decide +kernel
theorem dX4_total_33 : decode cX4_total 33 = .ok (.aload_n 0, 1) := by decide +kernel
theorem dX4_total_34 : decode cX4_total 34 = .ok (.invokevirtual 232, 3) := by decide +kernel
theorem dX4_total_37 : decode cX4_total 37 = .ok (.ireturn, 1) := by decide +kernel
theorem dX4_total_38 : decode cX4_total 38 = .ok (.aload_n 0, 1) := by decide +kernel
theorem dX4_total_39 : decode cX4_total 39 = .ok (.invokevirtual 235, 3) := by decide +kernel
theorem dX4_total_42 : decode cX4_total 42 = .ok (.ireturn, 1) := by decide +kernel
theorem dX4_total_43 : decode cX4_total 43 = .ok (.aload_n 0, 1) := by decide +kernel
theorem dX4_total_44 : decode cX4_total 44 = .ok (.invokevirtual 238, 3) := by decide +kernel
theorem dX4_total_47 : decode cX4_total 47 = .ok (.ireturn, 1) := by decide +kernel
theorem dX4_darkTicks_0 : decode cX4_darkTicks 0 = .ok (.iconst 0, 1) := by decide +kernel
theorem dX4_darkTicks_1 : decode cX4_darkTicks 1 = .ok (.istore_n 1, 1) := by decide +kernel
theorem dX4_darkTicks_2 : decode cX4_darkTicks 2 = .ok (.iconst 0, 1) := by decide +kernel
theorem dX4_darkTicks_3 : decode cX4_darkTicks 3 = .ok (.istore_n 2, 1) := by decide +kernel
theorem dX4_darkTicks_4 : decode cX4_darkTicks 4 = .ok (.iload_n 2, 1) := by decide +kernel
theorem dX4_darkTicks_5 : decode cX4_darkTicks 5 = .ok (.aload_n 0, 1) := by decide +kernel
theorem dX4_darkTicks_6 : decode cX4_darkTicks 6 = .ok (.getfield 59, 3) := by decide +kernel
theorem dX4_darkTicks_9 : decode cX4_darkTicks 9 = .ok (.if_icmp .ge 21, 3) := by decide +kernel
theorem dX4_darkTicks_12 : decode cX4_darkTicks 12 = .ok (.iload_n 1, 1) := by decide +kernel
theorem dX4_darkTicks_13 : decode cX4_darkTicks 13 = .ok (.aload_n 0, 1) := by decide +kernel
theorem dX4_darkTicks_14 : decode cX4_darkTicks 14 = .ok (.getfield 29, 3) := by decide +kernel
theorem dX4_darkTicks_17 : decode cX4_darkTicks 17 = .ok (.iload_n 2, 1) := by decide +kernel
theorem dX4_darkTicks_18 : decode cX4_darkTicks 18 = .ok (.aaload, 1) := by decide +kernel
theorem dX4_darkTicks_19 : decode cX4_darkTicks 19 = .ok (.getfield 176, 3) := by decide +kernel
theorem dX4_darkTicks_22 : decode cX4_darkTicks 22 = .ok (.iadd, 1) := by decide +kernel
theorem dX4_darkTicks_23 : decode cX4_darkTicks 23 = .ok (.istore_n 1, 1) := by decide +kernel
theorem dX4_darkTicks_24 : decode cX4_darkTicks 24 = .ok (.iinc 2 1, 3) := by decide +kernel
theorem dX4_darkTicks_27 : decode cX4_darkTicks 27 = .ok (.goto (-23), 3) := by decide +kernel
theorem dX4_darkTicks_30 : decode cX4_darkTicks 30 = .ok (.iload_n 1, 1) := by decide +kernel
theorem dX4_darkTicks_31 : decode cX4_darkTicks 31 = .ok (.ireturn, 1) := by decide +kernel
theorem dX4_lightUnits_0 : decode cX4_lightUnits 0 = .ok (.iconst 0, 1) := by decide +kernel
theorem dX4_lightUnits_1 : decode cX4_lightUnits 1 = .ok (.istore_n 1, 1) := by decide +kernel
theorem dX4_lightUnits_2 : decode cX4_lightUnits 2 = .ok (.iconst 0, 1) := by decide +kernel
theorem dX4_lightUnits_3 : decode cX4_lightUnits 3 = .ok (.istore_n 2, 1) := by decide +kernel
theorem dX4_lightUnits_4 : decode cX4_lightUnits 4 = .ok (.iload_n 2, 1) := by decide +kernel
theorem dX4_lightUnits_5 : decode cX4_lightUnits 5 = .ok (.aload_n 0, 1) := by decide +kernel
theorem dX4_lightUnits_6 : decode cX4_lightUnits 6 = .ok (.getfield 45, 3) := by decide +kernel
theorem dX4_lightUnits_9 : decode cX4_lightUnits 9 = .ok (.if_icmp .ge 21, 3) := by decide +kernel
theorem dX4_lightUnits_12 : decode cX4_lightUnits 12 = .ok (.iload_n 1, 1) := by decide +kernel
theorem dX4_lightUnits_13 : decode cX4_lightUnits 13 = .ok (.aload_n 0, 1) := by decide +kernel
theorem dX4_lightUnits_14 : decode cX4_lightUnits 14 = .ok (.getfield 17, 3) := by decide +kernel
theorem dX4_lightUnits_17 : decode cX4_lightUnits 17 = .ok (.iload_n 2, 1) := by decide +kernel
theorem dX4_lightUnits_18 : decode cX4_lightUnits 18 = .ok (.aaload, 1) := by decide +kernel
theorem dX4_lightUnits_19 : decode cX4_lightUnits 19 = .ok (.getfield 241, 3) := by decide +kernel
theorem dX4_lightUnits_22 : decode cX4_lightUnits 22 = .ok (.iadd, 1) := by decide +kernel
theorem dX4_lightUnits_23 : decode cX4_lightUnits 23 = .ok (.istore_n 1, 1) := by decide +kernel
theorem dX4_lightUnits_24 : decode cX4_lightUnits 24 = .ok (.iinc 2 1, 3) := by decide +kernel
theorem dX4_lightUnits_27 : decode cX4_lightUnits 27 = .ok (.goto (-23), 3) := by decide +kernel
theorem dX4_lightUnits_30 : decode cX4_lightUnits 30 = .ok (.iload_n 1, 1) := by decide +kernel
theorem dX4_lightUnits_31 : decode cX4_lightUnits 31 = .ok (.ireturn, 1) := by decide +kernel
theorem dX4_disturbedTicks_0 : decode cX4_disturbedTicks 0 = .ok (.iconst 0, 1) := by decide +kernel
theorem dX4_disturbedTicks_1 : decode cX4_disturbedTicks 1 = .ok (.istore_n 1, 1) := by decide +kernel
theorem dX4_disturbedTicks_2 : decode cX4_disturbedTicks 2 = .ok (.iconst 0, 1) := by decide +kernel
theorem dX4_disturbedTicks_3 : decode cX4_disturbedTicks 3 = .ok (.istore_n 2, 1) := by decide +kernel
theorem dX4_disturbedTicks_4 : decode cX4_disturbedTicks 4 = .ok (.iload_n 2, 1) := by decide +kernel
theorem dX4_disturbedTicks_5 : decode cX4_disturbedTicks 5 = .ok (.aload_n 0, 1) := by decide +kernel
theorem dX4_disturbedTicks_6 : decode cX4_disturbedTicks 6 = .ok (.getfield 53, 3) := by decide +kernel
theorem dX4_disturbedTicks_9 : decode cX4_disturbedTicks 9 = .ok (.if_icmp .ge 21, 3) := by decide +kernel
theorem dX4_disturbedTicks_12 : decode cX4_disturbedTicks 12 = .ok (.iload_n 1, 1) := by decide +kernel
theorem dX4_disturbedTicks_13 : decode cX4_disturbedTicks 13 = .ok (.aload_n 0, 1) := by decide +kernel
theorem dX4_disturbedTicks_14 : decode cX4_disturbedTicks 14 = .ok (.getfield 23, 3) := by decide +kernel
theorem dX4_disturbedTicks_17 : decode cX4_disturbedTicks 17 = .ok (.iload_n 2, 1) := by decide +kernel
theorem dX4_disturbedTicks_18 : decode cX4_disturbedTicks 18 = .ok (.aaload, 1) := by decide +kernel
theorem dX4_disturbedTicks_19 : decode cX4_disturbedTicks 19 = .ok (.getfield 186, 3) := by decide +kernel
theorem dX4_disturbedTicks_22 : decode cX4_disturbedTicks 22 = .ok (.iadd, 1) := by decide +kernel
theorem dX4_disturbedTicks_23 : decode cX4_disturbedTicks 23 = .ok (.istore_n 1, 1) := by decide +kernel
theorem dX4_disturbedTicks_24 : decode cX4_disturbedTicks 24 = .ok (.iinc 2 1, 3) := by decide +kernel
theorem dX4_disturbedTicks_27 : decode cX4_disturbedTicks 27 = .ok (.goto (-23), 3) := by decide +kernel
theorem dX4_disturbedTicks_30 : decode cX4_disturbedTicks 30 = .ok (.iload_n 1, 1) := by decide +kernel
theorem dX4_disturbedTicks_31 : decode cX4_disturbedTicks 31 = .ok (.ireturn, 1) := by decide +kernel
theorem dX4_coughsSoFar_0 : decode cX4_coughsSoFar 0 = .ok (.iconst 0, 1) := by decide +kernel
theorem dX4_coughsSoFar_1 : decode cX4_coughsSoFar 1 = .ok (.istore_n 1, 1) := by decide +kernel
theorem dX4_coughsSoFar_2 : decode cX4_coughsSoFar 2 = .ok (.iconst 0, 1) := by decide +kernel
theorem dX4_coughsSoFar_3 : decode cX4_coughsSoFar 3 = .ok (.istore_n 2, 1) := by decide +kernel
theorem dX4_coughsSoFar_4 : decode cX4_coughsSoFar 4 = .ok (.iload_n 2, 1) := by decide +kernel
theorem dX4_coughsSoFar_5 : decode cX4_coughsSoFar 5 = .ok (.aload_n 0, 1) := by decide +kernel
theorem dX4_coughsSoFar_6 : decode cX4_coughsSoFar 6 = .ok (.getfield 45, 3) := by decide +kernel
theorem dX4_coughsSoFar_9 : decode cX4_coughsSoFar 9 = .ok (.if_icmp .ge 21, 3) := by decide +kernel
theorem dX4_coughsSoFar_12 : decode cX4_coughsSoFar 12 = .ok (.iload_n 1, 1) := by decide +kernel
theorem dX4_coughsSoFar_13 : decode cX4_coughsSoFar 13 = .ok (.aload_n 0, 1) := by decide +kernel
theorem dX4_coughsSoFar_14 : decode cX4_coughsSoFar 14 = .ok (.getfield 17, 3) := by decide +kernel
theorem dX4_coughsSoFar_17 : decode cX4_coughsSoFar 17 = .ok (.iload_n 2, 1) := by decide +kernel
theorem dX4_coughsSoFar_18 : decode cX4_coughsSoFar 18 = .ok (.aaload, 1) := by decide +kernel
theorem dX4_coughsSoFar_19 : decode cX4_coughsSoFar 19 = .ok (.getfield 192, 3) := by decide +kernel
theorem dX4_coughsSoFar_22 : decode cX4_coughsSoFar 22 = .ok (.iadd, 1) := by decide +kernel
theorem dX4_coughsSoFar_23 : decode cX4_coughsSoFar 23 = .ok (.istore_n 1, 1) := by decide +kernel
theorem dX4_coughsSoFar_24 : decode cX4_coughsSoFar 24 = .ok (.iinc 2 1, 3) := by decide +kernel
theorem dX4_coughsSoFar_27 : decode cX4_coughsSoFar 27 = .ok (.goto (-23), 3) := by decide +kernel
theorem dX4_coughsSoFar_30 : decode cX4_coughsSoFar 30 = .ok (.iload_n 1, 1) := by decide +kernel
theorem dX4_coughsSoFar_31 : decode cX4_coughsSoFar 31 = .ok (.ireturn, 1) := by decide +kernel
theorem dX5_init_0 : decode cX5_init 0 = .ok (.aload_n 0, 1) := by decide +kernel
theorem dX5_init_1 : decode cX5_init 1 = .ok (.invokespecial 3, 3) := by decide +kernel
theorem dX5_init_4 : decode cX5_init 4 = .ok (.aload_n 0, 1) := by decide +kernel
theorem dX5_init_5 : decode cX5_init 5 = .ok (.bipush 6, 2) := by decide +kernel
theorem dX5_init_7 : decode cX5_init 7 = .ok (.newarray .int, 2) := by decide +kernel
theorem dX5_init_9 : decode cX5_init 9 = .ok (.putfield 9, 3) := by decide +kernel
theorem dX5_init_12 : decode cX5_init 12 = .ok (.aload_n 0, 1) := by decide +kernel
theorem dX5_init_13 : decode cX5_init 13 = .ok (.bipush 6, 2) := by decide +kernel
theorem dX5_init_15 : decode cX5_init 15 = .ok (.newarray .int, 2) := by decide +kernel
theorem dX5_init_17 : decode cX5_init 17 = .ok (.putfield 15, 3) := by decide +kernel
theorem dX5_init_20 : decode cX5_init 20 = .ok (.return_, 1) := by decide +kernel
theorem dX5_place_0 : decode cX5_place 0 = .ok (.aload_n 0, 1) := by decide +kernel
theorem dX5_place_1 : decode cX5_place 1 = .ok (.iconst 0, 1) := by decide +kernel
theorem dX5_place_2 : decode cX5_place 2 = .ok (.putfield 18, 3) := by decide +kernel
theorem dX5_place_5 : decode cX5_place 5 = .ok (.aload_n 0, 1) := by decide +kernel
theorem dX5_place_6 : decode cX5_place 6 = .ok (.iload_n 1, 1) := by decide +kernel
theorem dX5_place_7 : decode cX5_place 7 = .ok (.putfield 22, 3) := by decide +kernel
theorem dX5_place_10 : decode cX5_place 10 = .ok (.aload_n 0, 1) := by decide +kernel
theorem dX5_place_11 : decode cX5_place 11 = .ok (.iload_n 2, 1) := by decide +kernel
theorem dX5_place_12 : decode cX5_place 12 = .ok (.putfield 25, 3) := by decide +kernel
theorem dX5_place_15 : decode cX5_place 15 = .ok (.aload_n 0, 1) := by decide +kernel
theorem dX5_place_16 : decode cX5_place 16 = .ok (.iconst 0, 1) := by decide +kernel
theorem dX5_place_17 : decode cX5_place 17 = .ok (.putfield 28, 3) := by decide +kernel
theorem dX5_place_20 : decode cX5_place 20 = .ok (.aload_n 0, 1) := by decide +kernel
theorem dX5_place_21 : decode cX5_place 21 = .ok (.bipush (-6), 2) := by decide +kernel
theorem dX5_place_23 : decode cX5_place 23 = .ok (.putfield 32, 3) := by decide +kernel
theorem dX5_place_26 : decode cX5_place 26 = .ok (.aload_n 0, 1) := by decide +kernel
theorem dX5_place_27 : decode cX5_place 27 = .ok (.iconst 0, 1) := by decide +kernel
theorem dX5_place_28 : decode cX5_place 28 = .ok (.putfield 35, 3) := by decide +kernel
theorem dX5_place_31 : decode cX5_place 31 = .ok (.aload_n 0, 1) := by decide +kernel
theorem dX5_place_32 : decode cX5_place 32 = .ok (.iconst 0, 1) := by decide +kernel
theorem dX5_place_33 : decode cX5_place 33 = .ok (.putfield 38, 3) := by decide +kernel
theorem dX5_place_36 : decode cX5_place 36 = .ok (.return_, 1) := by decide +kernel
theorem dX5_copyFrom_0 : decode cX5_copyFrom 0 = .ok (.aload_n 1, 1) := by decide +kernel
theorem dX5_copyFrom_1 : decode cX5_copyFrom 1 = .ok (.getfield 9, 3) := by decide +kernel
theorem dX5_copyFrom_4 : decode cX5_copyFrom 4 = .ok (.iconst 0, 1) := by decide +kernel
theorem dX5_copyFrom_5 : decode cX5_copyFrom 5 = .ok (.aload_n 0, 1) := by decide +kernel
theorem dX5_copyFrom_6 : decode cX5_copyFrom 6 = .ok (.getfield 9, 3) := by decide +kernel
theorem dX5_copyFrom_9 : decode cX5_copyFrom 9 = .ok (.iconst 0, 1) := by decide +kernel
theorem dX5_copyFrom_10 : decode cX5_copyFrom 10 = .ok (.bipush 6, 2) := by decide +kernel
theorem dX5_copyFrom_12 : decode cX5_copyFrom 12 = .ok (.invokestatic 41, 3) := by decide +kernel
theorem dX5_copyFrom_15 : decode cX5_copyFrom 15 = .ok (.aload_n 1, 1) := by decide +kernel
theorem dX5_copyFrom_16 : decode cX5_copyFrom 16 = .ok (.getfield 15, 3) := by decide +kernel
theorem dX5_copyFrom_19 : decode cX5_copyFrom 19 = .ok (.iconst 0, 1) := by decide +kernel
theorem dX5_copyFrom_20 : decode cX5_copyFrom 20 = .ok (.aload_n 0, 1) := by decide +kernel
theorem dX5_copyFrom_21 : decode cX5_copyFrom 21 = .ok (.getfield 15, 3) := by decide +kernel
theorem dX5_copyFrom_24 : decode cX5_copyFrom 24 = .ok (.iconst 0, 1) := by decide +kernel
theorem dX5_copyFrom_25 : decode cX5_copyFrom 25 = .ok (.bipush 6, 2) := by decide +kernel
theorem dX5_copyFrom_27 : decode cX5_copyFrom 27 = .ok (.invokestatic 41, 3) := by decide +kernel
theorem dX5_copyFrom_30 : decode cX5_copyFrom 30 = .ok (.aload_n 0, 1) := by decide +kernel
theorem dX5_copyFrom_31 : decode cX5_copyFrom 31 = .ok (.aload_n 1, 1) := by decide +kernel
theorem dX5_copyFrom_32 : decode cX5_copyFrom 32 = .ok (.getfield 18, 3) := by decide +kernel
theorem dX5_copyFrom_35 : decode cX5_copyFrom 35 = .ok (.putfield 18, 3) := by decide +kernel
theorem dX5_copyFrom_38 : decode cX5_copyFrom 38 = .ok (.aload_n 0, 1) := by decide +kernel
theorem dX5_copyFrom_39 : decode cX5_copyFrom 39 = .ok (.aload_n 1, 1) := by decide +kernel
theorem dX5_copyFrom_40 : decode cX5_copyFrom 40 = .ok (.getfield 22, 3) := by decide +kernel
theorem dX5_copyFrom_43 : decode cX5_copyFrom 43 = .ok (.putfield 22, 3) := by decide +kernel
theorem dX5_copyFrom_46 : decode cX5_copyFrom 46 = .ok (.aload_n 0, 1) := by decide +kernel
theorem dX5_copyFrom_47 : decode cX5_copyFrom 47 = .ok (.aload_n 1, 1) := by decide +kernel
theorem dX5_copyFrom_48 : decode cX5_copyFrom 48 = .ok (.getfield 25, 3) := by decide +kernel
theorem dX5_copyFrom_51 : decode cX5_copyFrom 51 = .ok (.putfield 25, 3) := by decide +kernel
theorem dX5_copyFrom_54 : decode cX5_copyFrom 54 = .ok (.aload_n 0, 1) := by decide +kernel
theorem dX5_copyFrom_55 : decode cX5_copyFrom 55 = .ok (.aload_n 1, 1) := by decide +kernel
theorem dX5_copyFrom_56 : decode cX5_copyFrom 56 = .ok (.getfield 28, 3) := by decide +kernel
theorem dX5_copyFrom_59 : decode cX5_copyFrom 59 = .ok (.putfield 28, 3) := by decide +kernel
theorem dX5_copyFrom_62 : decode cX5_copyFrom 62 = .ok (.aload_n 0, 1) := by decide +kernel
theorem dX5_copyFrom_63 : decode cX5_copyFrom 63 = .ok (.aload_n 1, 1) := by decide +kernel
theorem dX5_copyFrom_64 : decode cX5_copyFrom 64 = .ok (.getfield 32, 3) := by decide +kernel
theorem dX5_copyFrom_67 : decode cX5_copyFrom 67 = .ok (.putfield 32, 3) := by decide +kernel
theorem dX5_copyFrom_70 : decode cX5_copyFrom 70 = .ok (.aload_n 0, 1) := by decide +kernel
theorem dX5_copyFrom_71 : decode cX5_copyFrom 71 = .ok (.aload_n 1, 1) := by decide +kernel
theorem dX5_copyFrom_72 : decode cX5_copyFrom 72 = .ok (.getfield 35, 3) := by decide +kernel
theorem dX5_copyFrom_75 : decode cX5_copyFrom 75 = .ok (.putfield 35, 3) := by decide +kernel
theorem dX5_copyFrom_78 : decode cX5_copyFrom 78 = .ok (.aload_n 0, 1) := by decide +kernel
theorem dX5_copyFrom_79 : decode cX5_copyFrom 79 = .ok (.aload_n 1, 1) := by decide +kernel
theorem dX5_copyFrom_80 : decode cX5_copyFrom 80 = .ok (.getfield 38, 3) := by decide +kernel
theorem dX5_copyFrom_83 : decode cX5_copyFrom 83 = .ok (.putfield 38, 3) := by decide +kernel
theorem dX5_copyFrom_86 : decode cX5_copyFrom 86 = .ok (.return_, 1) := by decide +kernel
theorem dX5_addGoal_0 : decode cX5_addGoal 0 = .ok (.aload_n 0, 1) := by decide +kernel
theorem dX5_addGoal_1 : decode cX5_addGoal 1 = .ok (.getfield 18, 3) := by decide +kernel
theorem dX5_addGoal_4 : decode cX5_addGoal 4 = .ok (.bipush 6, 2) := by decide +kernel
theorem dX5_addGoal_6 : decode cX5_addGoal 6 = .ok (.if_icmp .lt 6, 3) := by decide +kernel
theorem dX5_addGoal_9 : decode cX5_addGoal 9 = .ok (.bipush (-4), 2) := by decide +kernel
theorem dX5_addGoal_11 : decode cX5_addGoal 11 = .ok (.ireturn, 1) := by decide +kernel
theorem dX5_addGoal_12 : decode cX5_addGoal 12 = .ok (.aload_n 0, 1) := by decide +kernel
theorem dX5_addGoal_13 : decode cX5_addGoal 13 = .ok (.getfield 28, 3) := by decide +kernel
theorem dX5_addGoal_16 : decode cX5_addGoal 16 = .ok (.ifCond .eq 6, 3) := by decide +kernel
theorem dX5_addGoal_19 : decode cX5_addGoal 19 = .ok (.bipush (-5), 2) := by decide +kernel
theorem dX5_addGoal_21 : decode cX5_addGoal 21 = .ok (.ireturn, 1) := by decide +kernel
theorem dX5_addGoal_22 : decode cX5_addGoal 22 = .ok (.aload_n 0, 1) := by decide +kernel
theorem dX5_addGoal_23 : decode cX5_addGoal 23 = .ok (.getfield 9, 3) := by decide +kernel
theorem dX5_addGoal_26 : decode cX5_addGoal 26 = .ok (.aload_n 0, 1) := by decide +kernel
theorem dX5_addGoal_27 : decode cX5_addGoal 27 = .ok (.getfield 18, 3) := by decide +kernel
theorem dX5_addGoal_30 : decode cX5_addGoal 30 = .ok (.iload_n 1, 1) := by decide +kernel
theorem dX5_addGoal_31 : decode cX5_addGoal 31 = .ok (.iastore, 1) := by decide +kernel
theorem dX5_addGoal_32 : decode cX5_addGoal 32 = .ok (.aload_n 0, 1) := by decide +kernel
theorem dX5_addGoal_33 : decode cX5_addGoal 33 = .ok (.getfield 15, 3) := by decide +kernel
theorem dX5_addGoal_36 : decode cX5_addGoal 36 = .ok (.aload_n 0, 1) := by decide +kernel
theorem dX5_addGoal_37 : decode cX5_addGoal 37 = .ok (.getfield 18, 3) := by decide +kernel
theorem dX5_addGoal_40 : decode cX5_addGoal 40 = .ok (.iload_n 2, 1) := by decide +kernel
theorem dX5_addGoal_41 : decode cX5_addGoal 41 = .ok (.iastore, 1) := by decide +kernel
theorem dX5_addGoal_42 : decode cX5_addGoal 42 = .ok (.aload_n 0, 1) := by decide +kernel
theorem dX5_addGoal_43 : decode cX5_addGoal 43 = .ok (.dup, 1) := by decide +kernel
theorem dX5_addGoal_44 : decode cX5_addGoal 44 = .ok (.getfield 18, 3) := by decide +kernel
theorem dX5_addGoal_47 : decode cX5_addGoal 47 = .ok (.iconst 1, 1) := by decide +kernel
theorem dX5_addGoal_48 : decode cX5_addGoal 48 = .ok (.iadd, 1) := by decide +kernel
theorem dX5_addGoal_49 : decode cX5_addGoal 49 = .ok (.putfield 18, 3) := by decide +kernel
theorem dX5_addGoal_52 : decode cX5_addGoal 52 = .ok (.aload_n 0, 1) := by decide +kernel
theorem dX5_addGoal_53 : decode cX5_addGoal 53 = .ok (.getfield 18, 3) := by decide +kernel
theorem dX5_addGoal_56 : decode cX5_addGoal 56 = .ok (.ireturn, 1) := by decide +kernel
theorem dX5_go_0 : decode cX5_go 0 = .ok (.aload_n 0, 1) := by decide +kernel
theorem dX5_go_1 : decode cX5_go 1 = .ok (.getfield 18, 3) := by decide +kernel
theorem dX5_go_4 : decode cX5_go 4 = .ok (.ifCond .ne 4, 3) := by decide +kernel
theorem dX5_go_7 : decode cX5_go 7 = .ok (.return_, 1) := by decide +kernel
theorem dX5_go_8 : decode cX5_go 8 = .ok (.aload_n 0, 1) := by decide +kernel
theorem dX5_go_9 : decode cX5_go 9 = .ok (.getfield 32, 3) := by decide +kernel
theorem dX5_go_12 : decode cX5_go 12 = .ok (.bipush (-6), 2) := by decide +kernel
theorem dX5_go_14 : decode cX5_go 14 = .ok (.if_icmp .eq 31, 3) := by decide +kernel
theorem dX5_go_17 : decode cX5_go 17 = .ok (.aload_n 0, 1) := by decide +kernel
theorem dX5_go_18 : decode cX5_go 18 = .ok (.dup, 1) := by decide +kernel
theorem dX5_go_19 : decode cX5_go 19 = .ok (.getfield 32, 3) := by decide +kernel
theorem dX5_go_22 : decode cX5_go 22 = .ok (.iconst 1, 1) := by decide +kernel
theorem dX5_go_23 : decode cX5_go 23 = .ok (.iadd, 1) := by decide +kernel
theorem dX5_go_24 : decode cX5_go 24 = .ok (.putfield 32, 3) := by decide +kernel
theorem dX5_go_27 : decode cX5_go 27 = .ok (.aload_n 0, 1) := by decide +kernel
theorem dX5_go_28 : decode cX5_go 28 = .ok (.getfield 32, 3) := by decide +kernel
theorem dX5_go_31 : decode cX5_go 31 = .ok (.aload_n 0, 1) := by decide +kernel
theorem dX5_go_32 : decode cX5_go 32 = .ok (.getfield 15, 3) := by decide +kernel
theorem dX5_go_35 : decode cX5_go 35 = .ok (.iconst 0, 1) := by decide +kernel
theorem dX5_go_36 : decode cX5_go 36 = .ok (.iaload, 1) := by decide +kernel
theorem dX5_go_37 : decode cX5_go 37 = .ok (.if_icmp .lt 7, 3) := by decide +kernel
theorem dX5_go_40 : decode cX5_go 40 = .ok (.aload_n 0, 1) := by decide +kernel
theorem dX5_go_41 : decode cX5_go 41 = .ok (.invokevirtual 47, 3) := by decide +kernel
theorem dX5_go_44 : decode cX5_go 44 = .ok (.return_, 1) := by decide +kernel
theorem dX5_go_45 : decode cX5_go 45 = .ok (.aload_n 0, 1) := by decide +kernel
theorem dX5_go_46 : decode cX5_go 46 = .ok (.getfield 9, 3) := by decide +kernel
theorem dX5_go_49 : decode cX5_go 49 = .ok (.iconst 0, 1) := by decide +kernel
theorem dX5_go_50 : decode cX5_go 50 = .ok (.iaload, 1) := by decide +kernel
theorem dX5_go_51 : decode cX5_go 51 = .ok (.aload_n 0, 1) := by decide +kernel
theorem dX5_go_52 : decode cX5_go 52 = .ok (.getfield 22, 3) := by decide +kernel
theorem dX5_go_55 : decode cX5_go 55 = .ok (.isub, 1) := by decide +kernel
theorem dX5_go_56 : decode cX5_go 56 = .ok (.istore_n 1, 1) := by decide +kernel
theorem dX5_go_57 : decode cX5_go 57 = .ok (.aload_n 0, 1) := by decide +kernel
theorem dX5_go_58 : decode cX5_go 58 = .ok (.getfield 25, 3) := by decide +kernel
theorem dX5_go_61 : decode cX5_go 61 = .ok (.ineg, 1) := by decide +kernel
theorem dX5_go_62 : decode cX5_go 62 = .ok (.aload_n 0, 1) := by decide +kernel
theorem dX5_go_63 : decode cX5_go 63 = .ok (.getfield 25, 3) := by decide +kernel
theorem dX5_go_66 : decode cX5_go 66 = .ok (.iload_n 1, 1) := by decide +kernel
theorem dX5_go_67 : decode cX5_go 67 = .ok (.invokestatic 50, 3) := by decide +kernel
theorem dX5_go_70 : decode cX5_go 70 = .ok (.invokestatic 56, 3) := by decide +kernel
theorem dX5_go_73 : decode cX5_go 73 = .ok (.istore_n 2, 1) := by decide +kernel
theorem dX5_go_74 : decode cX5_go 74 = .ok (.aload_n 0, 1) := by decide +kernel
theorem dX5_go_75 : decode cX5_go 75 = .ok (.dup, 1) := by decide +kernel
theorem dX5_go_76 : decode cX5_go 76 = .ok (.getfield 22, 3) := by decide +kernel
theorem dX5_go_79 : decode cX5_go 79 = .ok (.iload_n 2, 1) := by decide +kernel
theorem dX5_go_80 : decode cX5_go 80 = .ok (.iadd, 1) := by decide +kernel
theorem dX5_go_81 : decode cX5_go 81 = .ok (.putfield 22, 3) := by decide +kernel
theorem dX5_go_84 : decode cX5_go 84 = .ok (.aload_n 0, 1) := by decide +kernel
theorem dX5_go_85 : decode cX5_go 85 = .ok (.dup, 1) := by decide +kernel
theorem dX5_go_86 : decode cX5_go 86 = .ok (.getfield 38, 3) := by decide +kernel
theorem dX5_go_89 : decode cX5_go 89 = .ok (.iload_n 2, 1) := by decide +kernel
theorem dX5_go_90 : decode cX5_go 90 = .ok (.invokestatic 59, 3) := by decide +kernel
theorem dX5_go_93 : decode cX5_go 93 = .ok (.iadd, 1) := by decide +kernel
theorem dX5_go_94 : decode cX5_go 94 = .ok (.putfield 38, 3) := by decide +kernel
theorem dX5_go_97 : decode cX5_go 97 = .ok (.iload_n 2, 1) := by decide +kernel
theorem dX5_go_98 : decode cX5_go 98 = .ok (.iload_n 1, 1) := by decide +kernel
theorem dX5_go_99 : decode cX5_go 99 = .ok (.if_icmp .ne 7, 3) := by decide +kernel
theorem dX5_go_102 : decode cX5_go 102 = .ok (.aload_n 0, 1) := by decide +kernel
theorem dX5_go_103 : decode cX5_go 103 = .ok (.invokevirtual 63, 3) := by decide +kernel
theorem dX5_go_106 : decode cX5_go 106 = .ok (.return_, 1) := by decide +kernel
theorem dX5_arrive_0 : decode cX5_arrive 0 = .ok (.aload_n 0, 1) := by decide +kernel
theorem dX5_arrive_1 : decode cX5_arrive 1 = .ok (.getfield 15, 3) := by decide +kernel
theorem dX5_arrive_4 : decode cX5_arrive 4 = .ok (.iconst 0, 1) := by decide +kernel
theorem dX5_arrive_5 : decode cX5_arrive 5 = .ok (.iaload, 1) := by decide +kernel
theorem dX5_arrive_6 : decode cX5_arrive 6 = .ok (.ifCond .le 11, 3) := by decide +kernel
theorem dX5_arrive_9 : decode cX5_arrive 9 = .ok (.aload_n 0, 1) := by decide +kernel
theorem dX5_arrive_10 : decode cX5_arrive 10 = .ok (.iconst 0, 1) := by decide +kernel
theorem dX5_arrive_11 : decode cX5_arrive 11 = .ok (.putfield 32, 3) := by decide +kernel
theorem dX5_arrive_14 : decode cX5_arrive 14 = .ok (.goto 7, 3) := by decide +kernel
theorem dX5_arrive_17 : decode cX5_arrive 17 = .ok (.aload_n 0, 1) := by decide +kernel
theorem dX5_arrive_18 : decode cX5_arrive 18 = .ok (.invokevirtual 47, 3) := by decide +kernel
theorem dX5_arrive_21 : decode cX5_arrive 21 = .ok (.return_, 1) := by decide +kernel
theorem dX5_finishGoal_0 : decode cX5_finishGoal 0 = .ok (.aload_n 0, 1) := by decide +kernel
theorem dX5_finishGoal_1 : decode cX5_finishGoal 1 = .ok (.bipush (-6), 2) := by decide +kernel
theorem dX5_finishGoal_3 : decode cX5_finishGoal 3 = .ok (.putfield 32, 3) := by decide +kernel
theorem dX5_finishGoal_6 : decode cX5_finishGoal 6 = .ok (.aload_n 0, 1) := by decide +kernel
theorem dX5_finishGoal_7 : decode cX5_finishGoal 7 = .ok (.dup, 1) := by decide +kernel
theorem dX5_finishGoal_8 : decode cX5_finishGoal 8 = .ok (.getfield 18, 3) := by decide +kernel
theorem dX5_finishGoal_11 : decode cX5_finishGoal 11 = .ok (.iconst 1, 1) := by decide +kernel
theorem dX5_finishGoal_12 : decode cX5_finishGoal 12 = .ok (.isub, 1) := by decide +kernel
theorem dX5_finishGoal_13 : decode cX5_finishGoal 13 = .ok (.putfield 18, 3) := by decide +kernel
theorem dX5_finishGoal_16 : decode cX5_finishGoal 16 = .ok (.aload_n 0, 1) := by decide +kernel
theorem dX5_finishGoal_17 : decode cX5_finishGoal 17 = .ok (.getfield 9, 3) := by decide +kernel
theorem dX5_finishGoal_20 : decode cX5_finishGoal 20 = .ok (.iconst 1, 1) := by decide +kernel
theorem dX5_finishGoal_21 : decode cX5_finishGoal 21 = .ok (.aload_n 0, 1) := by decide +kernel
theorem dX5_finishGoal_22 : decode cX5_finishGoal 22 = .ok (.getfield 9, 3) := by decide +kernel
theorem dX5_finishGoal_25 : decode cX5_finishGoal 25 = .ok (.iconst 0, 1) := by decide +kernel
theorem dX5_finishGoal_26 : decode cX5_finishGoal 26 = .ok (.iconst 5, 1) := by decide +kernel
theorem dX5_finishGoal_27 : decode cX5_finishGoal 27 = .ok (.invokestatic 41, 3) := by decide +kernel
theorem dX5_finishGoal_30 : decode cX5_finishGoal 30 = .ok (.aload_n 0, 1) := by decide +kernel
theorem dX5_finishGoal_31 : decode cX5_finishGoal 31 = .ok (.getfield 15, 3) := by decide +kernel
theorem dX5_finishGoal_34 : decode cX5_finishGoal 34 = .ok (.iconst 1, 1) := by decide +kernel
theorem dX5_finishGoal_35 : decode cX5_finishGoal 35 = .ok (.aload_n 0, 1) := by decide +kernel
theorem dX5_finishGoal_36 : decode cX5_finishGoal 36 = .ok (.getfield 15, 3) := by decide +kernel
theorem dX5_finishGoal_39 : decode cX5_finishGoal 39 = .ok (.iconst 0, 1) := by decide +kernel
theorem dX5_finishGoal_40 : decode cX5_finishGoal 40 = .ok (.iconst 5, 1) := by decide +kernel
theorem dX5_finishGoal_41 : decode cX5_finishGoal 41 = .ok (.invokestatic 41, 3) := by decide +kernel
theorem dX5_finishGoal_44 : decode cX5_finishGoal 44 = .ok (.aload_n 0, 1) := by decide +kernel
theorem dX5_finishGoal_45 : decode cX5_finishGoal 45 = .ok (.aload_n 0, 1) := by decide +kernel
theorem dX5_finishGoal_46 : decode cX5_finishGoal 46 = .ok (.getfield 18, 3) := by decide +kernel
theorem dX5_finishGoal_49 : decode cX5_finishGoal 49 = .ok (.ifCond .ne 7, 3) := by decide +kernel
theorem dX5_finishGoal_52 : decode cX5_finishGoal 52 = .ok (.iconst 1, 1) := by decide +kernel
theorem dX5_finishGoal_53 : decode cX5_finishGoal 53 = .ok (.goto 4, 3) := by decide +kernel
theorem dX5_finishGoal_56 : decode cX5_finishGoal 56 = .ok (.iconst 0, 1) := by decide +kernel
theorem dX5_finishGoal_57 : decode cX5_finishGoal 57 = .ok (.putfield 28, 3) := by decide +kernel
theorem dX5_finishGoal_60 : decode cX5_finishGoal 60 = .ok (.return_, 1) := by decide +kernel
theorem dX6_init_0 : decode cX6_init 0 = .ok (.aload_n 0, 1) := by decide +kernel
theorem dX6_init_1 : decode cX6_init 1 = .ok (.invokespecial 1, 3) := by decide +kernel
theorem dX6_init_4 : decode cX6_init 4 = .ok (.aload_n 0, 1) := by decide +kernel
theorem dX6_init_5 : decode cX6_init 5 = .ok (.new 7, 3) := by decide +kernel
theorem dX6_init_8 : decode cX6_init 8 = .ok (.dup, 1) := by decide +kernel
theorem dX6_init_9 : decode cX6_init 9 = .ok (.invokespecial 9, 3) := by decide +kernel
theorem dX6_init_12 : decode cX6_init 12 = .ok (.putfield 10, 3) := by decide +kernel
theorem dX6_init_15 : decode cX6_init 15 = .ok (.aload_n 0, 1) := by decide +kernel
theorem dX6_init_16 : decode cX6_init 16 = .ok (.new 7, 3) := by decide +kernel
theorem dX6_init_19 : decode cX6_init 19 = .ok (.dup, 1) := by decide +kernel
theorem dX6_init_20 : decode cX6_init 20 = .ok (.invokespecial 9, 3) := by decide +kernel
theorem dX6_init_23 : decode cX6_init 23 = .ok (.putfield 16, 3) := by decide +kernel
theorem dX6_init_26 : decode cX6_init 26 = .ok (.aload_n 0, 1) := by decide +kernel
theorem dX6_init_27 : decode cX6_init 27 = .ok (.iconst 2, 1) := by decide +kernel
theorem dX6_init_28 : decode cX6_init 28 = .ok (.anewarray 7, 3) := by decide +kernel
theorem dX6_init_31 : decode cX6_init 31 = .ok (.putfield 19, 3) := by decide +kernel
theorem dX6_init_34 : decode cX6_init 34 = .ok (.aload_n 0, 1) := by decide +kernel
theorem dX6_init_35 : decode cX6_init 35 = .ok (.iconst 2, 1) := by decide +kernel
theorem dX6_init_36 : decode cX6_init 36 = .ok (.newarray .boolean, 2) := by decide +kernel
theorem dX6_init_38 : decode cX6_init 38 = .ok (.putfield 23, 3) := by decide +kernel
theorem dX6_init_41 : decode cX6_init 41 = .ok (.aload_n 0, 1) := by decide +kernel
theorem dX6_init_42 : decode cX6_init 42 = .ok (.new 27, 3) := by decide +kernel
theorem dX6_init_45 : decode cX6_init 45 = .ok (.dup, 1) := by decide +kernel
theorem dX6_init_46 : decode cX6_init 46 = .ok (.invokespecial 29, 3) := by decide +kernel
theorem dX6_init_49 : decode cX6_init 49 = .ok (.putfield 30, 3) := by decide +kernel
theorem dX6_init_52 : decode cX6_init 52 = .ok (.aload_n 0, 1) := by decide +kernel
theorem dX6_init_53 : decode cX6_init 53 = .ok (.new 34, 3) := by decide +kernel
theorem dX6_init_56 : decode cX6_init 56 = .ok (.dup, 1) := by decide +kernel
theorem dX6_init_57 : decode cX6_init 57 = .ok (.invokespecial 36, 3) := by decide +kernel
theorem dX6_init_60 : decode cX6_init 60 = .ok (.putfield 37, 3) := by decide +kernel
theorem dX6_init_63 : decode cX6_init 63 = .ok (.iconst 0, 1) := by decide +kernel
theorem dX6_init_64 : decode cX6_init 64 = .ok (.istore_n 1, 1) := by decide +kernel
theorem dX6_init_65 : decode cX6_init 65 = .ok (.iload_n 1, 1) := by decide +kernel
theorem dX6_init_66 : decode cX6_init 66 = .ok (.iconst 2, 1) := by decide +kernel
theorem dX6_init_67 : decode cX6_init 67 = .ok (.if_icmp .ge 22, 3) := by decide +kernel
theorem dX6_init_70 : decode cX6_init 70 = .ok (.aload_n 0, 1) := by decide +kernel
theorem dX6_init_71 : decode cX6_init 71 = .ok (.getfield 19, 3) := by decide +kernel
theorem dX6_init_74 : decode cX6_init 74 = .ok (.iload_n 1, 1) := by decide +kernel
theorem dX6_init_75 : decode cX6_init 75 = .ok (.new 7, 3) := by decide +kernel
theorem dX6_init_78 : decode cX6_init 78 = .ok (.dup, 1) := by decide +kernel
theorem dX6_init_79 : decode cX6_init 79 = .ok (.invokespecial 9, 3) := by decide +kernel
theorem dX6_init_82 : decode cX6_init 82 = .ok (.aastore, 1) := by decide +kernel
theorem dX6_init_83 : decode cX6_init 83 = .ok (.iinc 1 1, 3) := by decide +kernel
theorem dX6_init_86 : decode cX6_init 86 = .ok (.goto (-21), 3) := by decide +kernel
theorem dX6_init_89 : decode cX6_init 89 = .ok (.return_, 1) := by decide +kernel
theorem dX6_set_0 : decode cX6_set 0 = .ok (.aload_n 0, 1) := by decide +kernel
theorem dX6_set_1 : decode cX6_set 1 = .ok (.getfield 30, 3) := by decide +kernel
theorem dX6_set_4 : decode cX6_set 4 = .ok (.aload_n 0, 1) := by decide +kernel
theorem dX6_set_5 : decode cX6_set 5 = .ok (.getfield 10, 3) := by decide +kernel
theorem dX6_set_8 : decode cX6_set 8 = .ok (.invokevirtual 41, 3) := by decide +kernel
theorem dX6_set_11 : decode cX6_set 11 = .ok (.aload_n 0, 1) := by decide +kernel
theorem dX6_set_12 : decode cX6_set 12 = .ok (.getfield 30, 3) := by decide +kernel
theorem dX6_set_15 : decode cX6_set 15 = .ok (.aload_n 0, 1) := by decide +kernel
theorem dX6_set_16 : decode cX6_set 16 = .ok (.getfield 10, 3) := by decide +kernel
theorem dX6_set_19 : decode cX6_set 19 = .ok (.iload_n 1, 1) := by decide +kernel
theorem dX6_set_20 : decode cX6_set 20 = .ok (.iload_n 2, 1) := by decide +kernel
theorem dX6_set_21 : decode cX6_set 21 = .ok (.invokevirtual 45, 3) := by decide +kernel
theorem dX6_set_24 : decode cX6_set 24 = .ok (.invokevirtual 49, 3) := by decide +kernel
theorem dX6_set_27 : decode cX6_set 27 = .ok (.ireturn, 1) := by decide +kernel
theorem dX6_lamp_0 : decode cX6_lamp 0 = .ok (.aload_n 0, 1) := by decide +kernel
theorem dX6_lamp_1 : decode cX6_lamp 1 = .ok (.getfield 30, 3) := by decide +kernel
theorem dX6_lamp_4 : decode cX6_lamp 4 = .ok (.aload_n 0, 1) := by decide +kernel
theorem dX6_lamp_5 : decode cX6_lamp 5 = .ok (.getfield 10, 3) := by decide +kernel
theorem dX6_lamp_8 : decode cX6_lamp 8 = .ok (.invokevirtual 41, 3) := by decide +kernel
theorem dX6_lamp_11 : decode cX6_lamp 11 = .ok (.aload_n 0, 1) := by decide +kernel
theorem dX6_lamp_12 : decode cX6_lamp 12 = .ok (.getfield 30, 3) := by decide +kernel
theorem dX6_lamp_15 : decode cX6_lamp 15 = .ok (.aload_n 0, 1) := by decide +kernel
theorem dX6_lamp_16 : decode cX6_lamp 16 = .ok (.getfield 10, 3) := by decide +kernel
theorem dX6_lamp_19 : decode cX6_lamp 19 = .ok (.iload_n 1, 1) := by decide +kernel
theorem dX6_lamp_20 : decode cX6_lamp 20 = .ok (.iload_n 2, 1) := by decide +kernel
theorem dX6_lamp_21 : decode cX6_lamp 21 = .ok (.invokevirtual 53, 3) := by decide +kernel
theorem dX6_lamp_24 : decode cX6_lamp 24 = .ok (.invokevirtual 49, 3) := by decide +kernel
theorem dX6_lamp_27 : decode cX6_lamp 27 = .ok (.ireturn, 1) := by decide +kernel
theorem dX6_house_0 : decode cX6_house 0 = .ok (.aload_n 0, 1) := by decide +kernel
theorem dX6_house_1 : decode cX6_house 1 = .ok (.getfield 30, 3) := by decide +kernel
theorem dX6_house_4 : decode cX6_house 4 = .ok (.aload_n 0, 1) := by decide +kernel
theorem dX6_house_5 : decode cX6_house 5 = .ok (.getfield 10, 3) := by decide +kernel
theorem dX6_house_8 : decode cX6_house 8 = .ok (.invokevirtual 41, 3) := by decide +kernel
theorem dX6_house_11 : decode cX6_house 11 = .ok (.aload_n 0, 1) := by decide +kernel
theorem dX6_house_12 : decode cX6_house 12 = .ok (.getfield 30, 3) := by decide +kernel
theorem dX6_house_15 : decode cX6_house 15 = .ok (.aload_n 0, 1) := by decide +kernel
theorem dX6_house_16 : decode cX6_house 16 = .ok (.getfield 10, 3) := by decide +kernel
theorem dX6_house_19 : decode cX6_house 19 = .ok (.iload_n 1, 1) := by decide +kernel
theorem dX6_house_20 : decode cX6_house 20 = .ok (.invokevirtual 56, 3) := by decide +kernel
theorem dX6_house_23 : decode cX6_house 23 = .ok (.invokevirtual 49, 3) := by decide +kernel
theorem dX6_house_26 : decode cX6_house 26 = .ok (.ireturn, 1) := by decide +kernel
theorem dX6_walker_0 : decode cX6_walker 0 = .ok (.aload_n 0, 1) := by decide +kernel
theorem dX6_walker_1 : decode cX6_walker 1 = .ok (.getfield 30, 3) := by decide +kernel
theorem dX6_walker_4 : decode cX6_walker 4 = .ok (.aload_n 0, 1) := by decide +kernel
theorem dX6_walker_5 : decode cX6_walker 5 = .ok (.getfield 10, 3) := by decide +kernel
theorem dX6_walker_8 : decode cX6_walker 8 = .ok (.invokevirtual 41, 3) := by decide +kernel
theorem dX6_walker_11 : decode cX6_walker 11 = .ok (.aload_n 0, 1) := by decide +kernel
theorem dX6_walker_12 : decode cX6_walker 12 = .ok (.getfield 30, 3) := by decide +kernel
theorem dX6_walker_15 : decode cX6_walker 15 = .ok (.aload_n 0, 1) := by decide +kernel
theorem dX6_walker_16 : decode cX6_walker 16 = .ok (.getfield 10, 3) := by decide +kernel
theorem dX6_walker_19 : decode cX6_walker 19 = .ok (.iload_n 1, 1) := by decide +kernel
theorem dX6_walker_20 : decode cX6_walker 20 = .ok (.iload_n 2, 1) := by decide +kernel
theorem dX6_walker_21 : decode cX6_walker 21 = .ok (.invokevirtual 59, 3) := by decide +kernel
theorem dX6_walker_24 : decode cX6_walker 24 = .ok (.invokevirtual 49, 3) := by decide +kernel
theorem dX6_walker_27 : decode cX6_walker 27 = .ok (.ireturn, 1) := by decide +kernel
theorem dX6_goal_0 : decode cX6_goal 0 = .ok (.aload_n 0, 1) := by decide +kernel
theorem dX6_goal_1 : decode cX6_goal 1 = .ok (.getfield 30, 3) := by decide +kernel
theorem dX6_goal_4 : decode cX6_goal 4 = .ok (.aload_n 0, 1) := by decide +kernel
theorem dX6_goal_5 : decode cX6_goal 5 = .ok (.getfield 10, 3) := by decide +kernel
theorem dX6_goal_8 : decode cX6_goal 8 = .ok (.invokevirtual 41, 3) := by decide +kernel
theorem dX6_goal_11 : decode cX6_goal 11 = .ok (.aload_n 0, 1) := by decide +kernel
theorem dX6_goal_12 : decode cX6_goal 12 = .ok (.getfield 30, 3) := by decide +kernel
theorem dX6_goal_15 : decode cX6_goal 15 = .ok (.aload_n 0, 1) := by decide +kernel
theorem dX6_goal_16 : decode cX6_goal 16 = .ok (.getfield 10, 3) := by decide +kernel
theorem dX6_goal_19 : decode cX6_goal 19 = .ok (.iload_n 1, 1) := by decide +kernel
theorem dX6_goal_20 : decode cX6_goal 20 = .ok (.iload_n 2, 1) := by decide +kernel
theorem dX6_goal_21 : decode cX6_goal 21 = .ok (.iload_n 3, 1) := by decide +kernel
theorem dX6_goal_22 : decode cX6_goal 22 = .ok (.invokevirtual 62, 3) := by decide +kernel
theorem dX6_goal_25 : decode cX6_goal 25 = .ok (.invokevirtual 49, 3) := by decide +kernel
theorem dX6_goal_28 : decode cX6_goal 28 = .ok (.ireturn, 1) := by decide +kernel
theorem dX6_mend_0 : decode cX6_mend 0 = .ok (.aload_n 0, 1) := by decide +kernel
theorem dX6_mend_1 : decode cX6_mend 1 = .ok (.getfield 30, 3) := by decide +kernel
theorem dX6_mend_4 : decode cX6_mend 4 = .ok (.aload_n 0, 1) := by decide +kernel
theorem dX6_mend_5 : decode cX6_mend 5 = .ok (.getfield 10, 3) := by decide +kernel
theorem dX6_mend_8 : decode cX6_mend 8 = .ok (.invokevirtual 41, 3) := by decide +kernel
theorem dX6_mend_11 : decode cX6_mend 11 = .ok (.aload_n 0, 1) := by decide +kernel
theorem dX6_mend_12 : decode cX6_mend 12 = .ok (.getfield 30, 3) := by decide +kernel
theorem dX6_mend_15 : decode cX6_mend 15 = .ok (.aload_n 0, 1) := by decide +kernel
theorem dX6_mend_16 : decode cX6_mend 16 = .ok (.getfield 10, 3) := by decide +kernel
theorem dX6_mend_19 : decode cX6_mend 19 = .ok (.iload_n 1, 1) := by decide +kernel
theorem dX6_mend_20 : decode cX6_mend 20 = .ok (.iload_n 2, 1) := by decide +kernel
theorem dX6_mend_21 : decode cX6_mend 21 = .ok (.invokevirtual 66, 3) := by decide +kernel
theorem dX6_mend_24 : decode cX6_mend 24 = .ok (.invokevirtual 49, 3) := by decide +kernel
theorem dX6_mend_27 : decode cX6_mend 27 = .ok (.ireturn, 1) := by decide +kernel
theorem dX6_cough_0 : decode cX6_cough 0 = .ok (.aload_n 0, 1) := by decide +kernel
theorem dX6_cough_1 : decode cX6_cough 1 = .ok (.getfield 30, 3) := by decide +kernel
theorem dX6_cough_4 : decode cX6_cough 4 = .ok (.aload_n 0, 1) := by decide +kernel
theorem dX6_cough_5 : decode cX6_cough 5 = .ok (.getfield 10, 3) := by decide +kernel
theorem dX6_cough_8 : decode cX6_cough 8 = .ok (.invokevirtual 41, 3) := by decide +kernel
theorem dX6_cough_11 : decode cX6_cough 11 = .ok (.aload_n 0, 1) := by decide +kernel
theorem dX6_cough_12 : decode cX6_cough 12 = .ok (.getfield 30, 3) := by decide +kernel
theorem dX6_cough_15 : decode cX6_cough 15 = .ok (.aload_n 0, 1) := by decide +kernel
theorem dX6_cough_16 : decode cX6_cough 16 = .ok (.getfield 10, 3) := by decide +kernel
theorem dX6_cough_19 : decode cX6_cough 19 = .ok (.iload_n 1, 1) := by decide +kernel
theorem dX6_cough_20 : decode cX6_cough 20 = .ok (.invokevirtual 69, 3) := by decide +kernel
theorem dX6_cough_23 : decode cX6_cough 23 = .ok (.invokevirtual 49, 3) := by decide +kernel
theorem dX6_cough_26 : decode cX6_cough 26 = .ok (.ireturn, 1) := by decide +kernel
theorem dX6_ticks_0 : decode cX6_ticks 0 = .ok (.aload_n 0, 1) := by decide +kernel
theorem dX6_ticks_1 : decode cX6_ticks 1 = .ok (.getfield 30, 3) := by decide +kernel
theorem dX6_ticks_4 : decode cX6_ticks 4 = .ok (.aload_n 0, 1) := by decide +kernel
theorem dX6_ticks_5 : decode cX6_ticks 5 = .ok (.getfield 10, 3) := by decide +kernel
theorem dX6_ticks_8 : decode cX6_ticks 8 = .ok (.invokevirtual 41, 3) := by decide +kernel
theorem dX6_ticks_11 : decode cX6_ticks 11 = .ok (.aload_n 0, 1) := by decide +kernel
theorem dX6_ticks_12 : decode cX6_ticks 12 = .ok (.getfield 30, 3) := by decide +kernel
theorem dX6_ticks_15 : decode cX6_ticks 15 = .ok (.aload_n 0, 1) := by decide +kernel
theorem dX6_ticks_16 : decode cX6_ticks 16 = .ok (.getfield 10, 3) := by decide +kernel
theorem dX6_ticks_19 : decode cX6_ticks 19 = .ok (.iload_n 1, 1) := by decide +kernel
theorem dX6_ticks_20 : decode cX6_ticks 20 = .ok (.invokevirtual 72, 3) := by decide +kernel
theorem dX6_ticks_23 : decode cX6_ticks 23 = .ok (.invokevirtual 49, 3) := by decide +kernel
theorem dX6_ticks_26 : decode cX6_ticks 26 = .ok (.ireturn, 1) := by decide +kernel
theorem dX6_ofLamp_0 : decode cX6_ofLamp 0 = .ok (.aload_n 0, 1) := by decide +kernel
theorem dX6_ofLamp_1 : decode cX6_ofLamp 1 = .ok (.getfield 10, 3) := by decide +kernel
theorem dX6_ofLamp_4 : decode cX6_ofLamp 4 = .ok (.iload_n 1, 1) := by decide +kernel
theorem dX6_ofLamp_5 : decode cX6_ofLamp 5 = .ok (.invokevirtual 75, 3) := by decide +kernel
theorem dX6_ofLamp_8 : decode cX6_ofLamp 8 = .ok (.ifCond .eq 19, 3) := by decide +kernel
theorem dX6_ofLamp_11 : decode cX6_ofLamp 11 = .ok (.aload_n 0, 1) := by decide +kernel
theorem dX6_ofLamp_12 : decode cX6_ofLamp 12 = .ok (.getfield 10, 3) := by decide +kernel
theorem dX6_ofLamp_15 : decode cX6_ofLamp 15 = .ok (.getfield 79, 3) := by decide +kernel
theorem dX6_ofLamp_18 : decode cX6_ofLamp 18 = .ok (.iload_n 1, 1) := by decide +kernel
theorem dX6_ofLamp_19 : decode cX6_ofLamp 19 = .ok (.aaload, 1) := by decide +kernel
theorem dX6_ofLamp_20 : decode cX6_ofLamp 20 = .ok (.iload_n 2, 1) := by decide +kernel
theorem dX6_ofLamp_21 : decode cX6_ofLamp 21 = .ok (.invokevirtual 83, 3) := by decide +kernel
theorem dX6_ofLamp_24 : decode cX6_ofLamp 24 = .ok (.goto 4, 3) := by decide +kernel
theorem dX6_ofLamp_27 : decode cX6_ofLamp 27 = .ok (.iconst (-1), 1) := by decide +kernel
theorem dX6_ofLamp_28 : decode cX6_ofLamp 28 = .ok (.ireturn, 1) := by decide +kernel
theorem dX6_ofWalker_0 : decode cX6_ofWalker 0 = .ok (.aload_n 0, 1) := by decide +kernel
theorem dX6_ofWalker_1 : decode cX6_ofWalker 1 = .ok (.getfield 10, 3) := by decide +kernel
theorem dX6_ofWalker_4 : decode cX6_ofWalker 4 = .ok (.iload_n 1, 1) := by decide +kernel
theorem dX6_ofWalker_5 : decode cX6_ofWalker 5 = .ok (.invokevirtual 88, 3) := by decide +kernel
theorem dX6_ofWalker_8 : decode cX6_ofWalker 8 = .ok (.ifCond .eq 23, 3) := by decide +kernel
theorem dX6_ofWalker_11 : decode cX6_ofWalker 11 = .ok (.aload_n 0, 1) := by decide +kernel
theorem dX6_ofWalker_12 : decode cX6_ofWalker 12 = .ok (.getfield 10, 3) := by decide +kernel
theorem dX6_ofWalker_15 : decode cX6_ofWalker 15 = .ok (.aload_n 0, 1) := by decide +kernel
theorem dX6_ofWalker_16 : decode cX6_ofWalker 16 = .ok (.getfield 10, 3) := by decide +kernel
theorem dX6_ofWalker_19 : decode cX6_ofWalker 19 = .ok (.getfield 91, 3) := by decide +kernel
theorem dX6_ofWalker_22 : decode cX6_ofWalker 22 = .ok (.iload_n 1, 1) := by decide +kernel
theorem dX6_ofWalker_23 : decode cX6_ofWalker 23 = .ok (.aaload, 1) := by decide +kernel
theorem dX6_ofWalker_24 : decode cX6_ofWalker 24 = .ok (.iload_n 2, 1) := by decide +kernel
theorem dX6_ofWalker_25 : decode cX6_ofWalker 25 = .ok (.invokevirtual 95, 3) := by decide +kernel
theorem dX6_ofWalker_28 : decode cX6_ofWalker 28 = .ok (.goto 4, 3) := by decide +kernel
theorem dX6_ofWalker_31 : decode cX6_ofWalker 31 = .ok (.iconst (-1), 1) := by decide +kernel
theorem dX6_ofWalker_32 : decode cX6_ofWalker 32 = .ok (.ireturn, 1) := by decide +kernel
theorem dX6_ofHouse_0 : decode cX6_ofHouse 0 = .ok (.aload_n 0, 1) := by decide +kernel
theorem dX6_ofHouse_1 : decode cX6_ofHouse 1 = .ok (.getfield 10, 3) := by decide +kernel
theorem dX6_ofHouse_4 : decode cX6_ofHouse 4 = .ok (.iload_n 1, 1) := by decide +kernel
theorem dX6_ofHouse_5 : decode cX6_ofHouse 5 = .ok (.invokevirtual 99, 3) := by decide +kernel
theorem dX6_ofHouse_8 : decode cX6_ofHouse 8 = .ok (.ifCond .eq 23, 3) := by decide +kernel
theorem dX6_ofHouse_11 : decode cX6_ofHouse 11 = .ok (.aload_n 0, 1) := by decide +kernel
theorem dX6_ofHouse_12 : decode cX6_ofHouse 12 = .ok (.getfield 10, 3) := by decide +kernel
theorem dX6_ofHouse_15 : decode cX6_ofHouse 15 = .ok (.aload_n 0, 1) := by decide +kernel
theorem dX6_ofHouse_16 : decode cX6_ofHouse 16 = .ok (.getfield 10, 3) := by decide +kernel
theorem dX6_ofHouse_19 : decode cX6_ofHouse 19 = .ok (.getfield 102, 3) := by decide +kernel
theorem dX6_ofHouse_22 : decode cX6_ofHouse 22 = .ok (.iload_n 1, 1) := by decide +kernel
theorem dX6_ofHouse_23 : decode cX6_ofHouse 23 = .ok (.aaload, 1) := by decide +kernel
theorem dX6_ofHouse_24 : decode cX6_ofHouse 24 = .ok (.iload_n 2, 1) := by decide +kernel
theorem dX6_ofHouse_25 : decode cX6_ofHouse 25 = .ok (.invokevirtual 106, 3) := by decide +kernel
theorem dX6_ofHouse_28 : decode cX6_ofHouse 28 = .ok (.goto 4, 3) := by decide +kernel
theorem dX6_ofHouse_31 : decode cX6_ofHouse 31 = .ok (.iconst (-1), 1) := by decide +kernel
theorem dX6_ofHouse_32 : decode cX6_ofHouse 32 = .ok (.ireturn, 1) := by decide +kernel
theorem dX6_lightAt_0 : decode cX6_lightAt 0 = .ok (.iload_n 1, 1) := by decide +kernel
theorem dX6_lightAt_1 : decode cX6_lightAt 1 = .ok (.invokestatic 110, 3) := by decide +kernel
theorem dX6_lightAt_4 : decode cX6_lightAt 4 = .ok (.ifCond .eq 14, 3) := by decide +kernel
theorem dX6_lightAt_7 : decode cX6_lightAt 7 = .ok (.aload_n 0, 1) := by decide +kernel
theorem dX6_lightAt_8 : decode cX6_lightAt 8 = .ok (.getfield 10, 3) := by decide +kernel
theorem dX6_lightAt_11 : decode cX6_lightAt 11 = .ok (.iload_n 1, 1) := by decide +kernel
theorem dX6_lightAt_12 : decode cX6_lightAt 12 = .ok (.invokevirtual 113, 3) := by decide +kernel
theorem dX6_lightAt_15 : decode cX6_lightAt 15 = .ok (.goto 4, 3) := by decide +kernel
theorem dX6_lightAt_18 : decode cX6_lightAt 18 = .ok (.iconst (-1), 1) := by decide +kernel
theorem dX6_lightAt_19 : decode cX6_lightAt 19 = .ok (.ireturn, 1) := by decide +kernel
theorem dX6_hearers_0 : decode cX6_hearers 0 = .ok (.aload_n 0, 1) := by decide +kernel
theorem dX6_hearers_1 : decode cX6_hearers 1 = .ok (.getfield 10, 3) := by decide +kernel
theorem dX6_hearers_4 : decode cX6_hearers 4 = .ok (.iload_n 1, 1) := by decide +kernel
theorem dX6_hearers_5 : decode cX6_hearers 5 = .ok (.invokevirtual 75, 3) := by decide +kernel
theorem dX6_hearers_8 : decode cX6_hearers 8 = .ok (.ifCond .eq 14, 3) := by decide +kernel
theorem dX6_hearers_11 : decode cX6_hearers 11 = .ok (.aload_n 0, 1) := by decide +kernel
theorem dX6_hearers_12 : decode cX6_hearers 12 = .ok (.getfield 10, 3) := by decide +kernel
theorem dX6_hearers_15 : decode cX6_hearers 15 = .ok (.iload_n 1, 1) := by decide +kernel
theorem dX6_hearers_16 : decode cX6_hearers 16 = .ok (.invokevirtual 116, 3) := by decide +kernel
theorem dX6_hearers_19 : decode cX6_hearers 19 = .ok (.goto 4, 3) := by decide +kernel
theorem dX6_hearers_22 : decode cX6_hearers 22 = .ok (.iconst (-1), 1) := by decide +kernel
theorem dX6_hearers_23 : decode cX6_hearers 23 = .ok (.ireturn, 1) := by decide +kernel
theorem dX6_count_0 : decode cX6_count 0 = .ok (.iload_n 1, 1) := by decide +kernel
theorem dX6_count_1 : decode cX6_count 1 = .ok (.bipush 11, 2) := by decide +kernel
theorem dX6_count_3 : decode cX6_count 3 = .ok (.bipush 16, 2) := by decide +kernel
theorem dX6_count_5 : decode cX6_count 5 = .ok (.invokestatic 119, 3) := by decide +kernel
theorem dX6_count_8 : decode cX6_count 8 = .ok (.ifCond .eq 16, 3) := by decide +kernel
theorem dX6_count_11 : decode cX6_count 11 = .ok (.aload_n 0, 1) := by decide +kernel
theorem dX6_count_12 : decode cX6_count 12 = .ok (.getfield 10, 3) := by decide +kernel
theorem dX6_count_15 : decode cX6_count 15 = .ok (.getfield 123, 3) := by decide +kernel
theorem dX6_count_18 : decode cX6_count 18 = .ok (.iload_n 1, 1) := by decide +kernel
theorem dX6_count_19 : decode cX6_count 19 = .ok (.bipush 11, 2) := by decide +kernel
theorem dX6_count_21 : decode cX6_count 21 = .ok (.isub, 1) := by decide +kernel
theorem dX6_count_22 : decode cX6_count 22 = .ok (.iaload, 1) := by decide +kernel
theorem dX6_count_23 : decode cX6_count 23 = .ok (.ireturn, 1) := by decide +kernel
theorem dX6_count_24 : decode cX6_count 24 = .ok (.iload_n 1, 1) := by decide +kernel
theorem dX6_count_25 : decode cX6_count 25 = .ok (.tableswitch 207 0 18 #[91, 99, 107, 115, 123, 131, 143, 155, 164, 173, 182, 207, 207, 207, 207, 207, 207, 191, 199], 91) := by decide +kernel
theorem dX6_count_116 : decode cX6_count 116 = .ok (.aload_n 0, 1) := by decide +kernel
theorem dX6_count_117 : decode cX6_count 117 = .ok (.getfield 10, 3) := by decide +kernel
theorem dX6_count_120 : decode cX6_count 120 = .ok (.getfield 127, 3) := by decide +kernel
theorem dX6_count_123 : decode cX6_count 123 = .ok (.ireturn, 1) := by decide +kernel
theorem dX6_count_124 : decode cX6_count 124 = .ok (.aload_n 0, 1) := by decide +kernel
theorem dX6_count_125 : decode cX6_count 125 = .ok (.getfield 10, 3) := by decide +kernel
theorem dX6_count_128 : decode cX6_count 128 = .ok (.getfield 131, 3) := by decide +kernel
theorem dX6_count_131 : decode cX6_count 131 = .ok (.ireturn, 1) := by decide +kernel
theorem dX6_count_132 : decode cX6_count 132 = .ok (.aload_n 0, 1) := by decide +kernel
theorem dX6_count_133 : decode cX6_count 133 = .ok (.getfield 10, 3) := by decide +kernel
theorem dX6_count_136 : decode cX6_count 136 = .ok (.getfield 134, 3) := by decide +kernel
theorem dX6_count_139 : decode cX6_count 139 = .ok (.ireturn, 1) := by decide +kernel
theorem dX6_count_140 : decode cX6_count 140 = .ok (.aload_n 0, 1) := by decide +kernel
theorem dX6_count_141 : decode cX6_count 141 = .ok (.getfield 10, 3) := by decide +kernel
theorem dX6_count_144 : decode cX6_count 144 = .ok (.getfield 137, 3) := by decide +kernel
theorem dX6_count_147 : decode cX6_count 147 = .ok (.ireturn, 1) := by decide +kernel
theorem dX6_count_148 : decode cX6_count 148 = .ok (.aload_n 0, 1) := by decide +kernel
theorem dX6_count_149 : decode cX6_count 149 = .ok (.getfield 10, 3) := by decide +kernel
theorem dX6_count_152 : decode cX6_count 152 = .ok (.invokevirtual 140, 3) := by decide +kernel
theorem dX6_count_155 : decode cX6_count 155 = .ok (.ireturn, 1) := by decide +kernel
theorem dX6_count_156 : decode cX6_count 156 = .ok (.aload_n 0, 1) := by decide +kernel
theorem dX6_count_157 : decode cX6_count 157 = .ok (.getfield 10, 3) := by decide +kernel
theorem dX6_count_160 : decode cX6_count 160 = .ok (.iconst 2, 1) := by decide +kernel
theorem dX6_count_161 : decode cX6_count 161 = .ok (.invokevirtual 144, 3) := by decide +kernel
theorem dX6_count_164 : decode cX6_count 164 = .ok (.invokestatic 147, 3) := by decide +kernel
theorem dX6_count_167 : decode cX6_count 167 = .ok (.ireturn, 1) := by decide +kernel
theorem dX6_count_168 : decode cX6_count 168 = .ok (.aload_n 0, 1) := by decide +kernel
theorem dX6_count_169 : decode cX6_count 169 = .ok (.getfield 10, 3) := by decide +kernel
theorem dX6_count_172 : decode cX6_count 172 = .ok (.iconst 1, 1) := by decide +kernel
theorem dX6_count_173 : decode cX6_count 173 = .ok (.invokevirtual 144, 3) := by decide +kernel
theorem dX6_count_176 : decode cX6_count 176 = .ok (.invokestatic 147, 3) := by decide +kernel
theorem dX6_count_179 : decode cX6_count 179 = .ok (.ireturn, 1) := by decide +kernel
theorem dX6_count_180 : decode cX6_count 180 = .ok (.aload_n 0, 1) := by decide +kernel
theorem dX6_count_181 : decode cX6_count 181 = .ok (.getfield 10, 3) := by decide +kernel
theorem dX6_count_184 : decode cX6_count 184 = .ok (.iconst 1, 1) := by decide +kernel
theorem dX6_count_185 : decode cX6_count 185 = .ok (.invokevirtual 152, 3) := by decide +kernel
theorem dX6_count_188 : decode cX6_count 188 = .ok (.ireturn, 1) := by decide +kernel
theorem dX6_count_189 : decode cX6_count 189 = .ok (.aload_n 0, 1) := by decide +kernel
theorem dX6_count_190 : decode cX6_count 190 = .ok (.getfield 10, 3) := by decide +kernel
theorem dX6_count_193 : decode cX6_count 193 = .ok (.iconst 0, 1) := by decide +kernel
theorem dX6_count_194 : decode cX6_count 194 = .ok (.invokevirtual 152, 3) := by decide +kernel
theorem dX6_count_197 : decode cX6_count 197 = .ok (.ireturn, 1) := by decide +kernel
theorem dX6_count_198 : decode cX6_count 198 = .ok (.aload_n 0, 1) := by decide +kernel
theorem dX6_count_199 : decode cX6_count 199 = .ok (.getfield 10, 3) := by decide +kernel
theorem dX6_count_202 : decode cX6_count 202 = .ok (.iconst 2, 1) := by decide +kernel
theorem dX6_count_203 : decode cX6_count 203 = .ok (.invokevirtual 152, 3) := by decide +kernel
theorem dX6_count_206 : decode cX6_count 206 = .ok (.ireturn, 1) := by decide +kernel
theorem dX6_count_207 : decode cX6_count 207 = .ok (.aload_n 0, 1) := by decide +kernel
theorem dX6_count_208 : decode cX6_count 208 = .ok (.getfield 10, 3) := by decide +kernel
theorem dX6_count_211 : decode cX6_count 211 = .ok (.iconst 3, 1) := by decide +kernel
theorem dX6_count_212 : decode cX6_count 212 = .ok (.invokevirtual 152, 3) := by decide +kernel
theorem dX6_count_215 : decode cX6_count 215 = .ok (.ireturn, 1) := by decide +kernel
theorem dX6_count_216 : decode cX6_count 216 = .ok (.aload_n 0, 1) := by decide +kernel
theorem dX6_count_217 : decode cX6_count 217 = .ok (.getfield 37, 3) := by decide +kernel
theorem dX6_count_220 : decode cX6_count 220 = .ok (.getfield 155, 3) := by decide +kernel
theorem dX6_count_223 : decode cX6_count 223 = .ok (.ireturn, 1) := by decide +kernel
theorem dX6_count_224 : decode cX6_count 224 = .ok (.aload_n 0, 1) := by decide +kernel
theorem dX6_count_225 : decode cX6_count 225 = .ok (.getfield 30, 3) := by decide +kernel
theorem dX6_count_228 : decode cX6_count 228 = .ok (.getfield 158, 3) := by decide +kernel
theorem dX6_count_231 : decode cX6_count 231 = .ok (.ireturn, 1) := by decide +kernel
theorem dX6_count_232 : decode cX6_count 232 = .ok (.bipush (-2), 2) := by decide +kernel
theorem dX6_count_234 : decode cX6_count 234 = .ok (.ireturn, 1) := by decide +kernel
theorem dX6_homeIn_0 : decode cX6_homeIn 0 = .ok (.aload_n 0, 1) := by decide +kernel
theorem dX6_homeIn_1 : decode cX6_homeIn 1 = .ok (.getfield 10, 3) := by decide +kernel
theorem dX6_homeIn_4 : decode cX6_homeIn 4 = .ok (.iload_n 1, 1) := by decide +kernel
theorem dX6_homeIn_5 : decode cX6_homeIn 5 = .ok (.invokevirtual 88, 3) := by decide +kernel
theorem dX6_homeIn_8 : decode cX6_homeIn 8 = .ok (.ifCond .ne 5, 3) := by decide +kernel
theorem dX6_homeIn_11 : decode cX6_homeIn 11 = .ok (.iconst (-1), 1) := by decide +kernel
theorem dX6_homeIn_12 : decode cX6_homeIn 12 = .ok (.ireturn, 1) := by decide +kernel
theorem dX6_homeIn_13 : decode cX6_homeIn 13 = .ok (.aload_n 0, 1) := by decide +kernel
theorem dX6_homeIn_14 : decode cX6_homeIn 14 = .ok (.getfield 16, 3) := by decide +kernel
theorem dX6_homeIn_17 : decode cX6_homeIn 17 = .ok (.getfield 91, 3) := by decide +kernel
theorem dX6_homeIn_20 : decode cX6_homeIn 20 = .ok (.iload_n 1, 1) := by decide +kernel
theorem dX6_homeIn_21 : decode cX6_homeIn 21 = .ok (.aaload, 1) := by decide +kernel
theorem dX6_homeIn_22 : decode cX6_homeIn 22 = .ok (.astore_n 2, 1) := by decide +kernel
theorem dX6_homeIn_23 : decode cX6_homeIn 23 = .ok (.aload_n 2, 1) := by decide +kernel
theorem dX6_homeIn_24 : decode cX6_homeIn 24 = .ok (.aload_n 0, 1) := by decide +kernel
theorem dX6_homeIn_25 : decode cX6_homeIn 25 = .ok (.getfield 10, 3) := by decide +kernel
theorem dX6_homeIn_28 : decode cX6_homeIn 28 = .ok (.getfield 91, 3) := by decide +kernel
theorem dX6_homeIn_31 : decode cX6_homeIn 31 = .ok (.iload_n 1, 1) := by decide +kernel
theorem dX6_homeIn_32 : decode cX6_homeIn 32 = .ok (.aaload, 1) := by decide +kernel
theorem dX6_homeIn_33 : decode cX6_homeIn 33 = .ok (.invokevirtual 161, 3) := by decide +kernel
theorem dX6_homeIn_36 : decode cX6_homeIn 36 = .ok (.iconst 0, 1) := by decide +kernel
theorem dX6_homeIn_37 : decode cX6_homeIn 37 = .ok (.istore_n 3, 1) := by decide +kernel
theorem dX6_homeIn_38 : decode cX6_homeIn 38 = .ok (.iload_n 3, 1) := by decide +kernel
theorem dX6_homeIn_39 : decode cX6_homeIn 39 = .ok (.sipush 500, 3) := by decide +kernel
theorem dX6_homeIn_42 : decode cX6_homeIn 42 = .ok (.if_icmp .gt 22, 3) := by decide +kernel
theorem dX6_homeIn_45 : decode cX6_homeIn 45 = .ok (.aload_n 2, 1) := by decide +kernel
theorem dX6_homeIn_46 : decode cX6_homeIn 46 = .ok (.getfield 167, 3) := by decide +kernel
theorem dX6_homeIn_49 : decode cX6_homeIn 49 = .ok (.ifCond .eq 5, 3) := by decide +kernel
theorem dX6_homeIn_52 : decode cX6_homeIn 52 = .ok (.iload_n 3, 1) := by decide +kernel
theorem dX6_homeIn_53 : decode cX6_homeIn 53 = .ok (.ireturn, 1) := by decide +kernel
theorem dX6_homeIn_54 : decode cX6_homeIn 54 = .ok (.aload_n 2, 1) := by decide +kernel
theorem dX6_homeIn_55 : decode cX6_homeIn 55 = .ok (.invokevirtual 171, 3) := by decide +kernel
theorem dX6_homeIn_58 : decode cX6_homeIn 58 = .ok (.iinc 3 1, 3) := by decide +kernel
theorem dX6_homeIn_61 : decode cX6_homeIn 61 = .ok (.goto (-23), 3) := by decide +kernel
theorem dX6_homeIn_64 : decode cX6_homeIn 64 = .ok (.bipush (-6), 2) := by decide +kernel
theorem dX6_homeIn_66 : decode cX6_homeIn 66 = .ok (.ireturn, 1) := by decide +kernel
theorem dX6_brings_0 : decode cX6_brings 0 = .ok (.iload_n 1, 1) := by decide +kernel
theorem dX6_brings_1 : decode cX6_brings 1 = .ok (.invokestatic 174, 3) := by decide +kernel
theorem dX6_brings_4 : decode cX6_brings 4 = .ok (.ifCond .eq 12, 3) := by decide +kernel
theorem dX6_brings_7 : decode cX6_brings 7 = .ok (.iload_n 2, 1) := by decide +kernel
theorem dX6_brings_8 : decode cX6_brings 8 = .ok (.iconst 0, 1) := by decide +kernel
theorem dX6_brings_9 : decode cX6_brings 9 = .ok (.iconst 3, 1) := by decide +kernel
theorem dX6_brings_10 : decode cX6_brings 10 = .ok (.invokestatic 119, 3) := by decide +kernel
theorem dX6_brings_13 : decode cX6_brings 13 = .ok (.ifCond .ne 6, 3) := by decide +kernel
theorem dX6_brings_16 : decode cX6_brings 16 = .ok (.bipush (-2), 2) := by decide +kernel
theorem dX6_brings_18 : decode cX6_brings 18 = .ok (.ireturn, 1) := by decide +kernel
theorem dX6_brings_19 : decode cX6_brings 19 = .ok (.aload_n 0, 1) := by decide +kernel
theorem dX6_brings_20 : decode cX6_brings 20 = .ok (.getfield 16, 3) := by decide +kernel
theorem dX6_brings_23 : decode cX6_brings 23 = .ok (.aload_n 0, 1) := by decide +kernel
theorem dX6_brings_24 : decode cX6_brings 24 = .ok (.getfield 10, 3) := by decide +kernel
theorem dX6_brings_27 : decode cX6_brings 27 = .ok (.invokevirtual 177, 3) := by decide +kernel
theorem dX6_brings_30 : decode cX6_brings 30 = .ok (.aload_n 0, 1) := by decide +kernel
theorem dX6_brings_31 : decode cX6_brings 31 = .ok (.getfield 16, 3) := by decide +kernel
theorem dX6_brings_34 : decode cX6_brings 34 = .ok (.iload_n 1, 1) := by decide +kernel
theorem dX6_brings_35 : decode cX6_brings 35 = .ok (.invokevirtual 72, 3) := by decide +kernel
theorem dX6_brings_38 : decode cX6_brings 38 = .ok (.pop, 1) := by decide +kernel
theorem dX6_brings_39 : decode cX6_brings 39 = .ok (.aload_n 0, 1) := by decide +kernel
theorem dX6_brings_40 : decode cX6_brings 40 = .ok (.iload_n 2, 1) := by decide +kernel
theorem dX6_brings_41 : decode cX6_brings 41 = .ok (.invokevirtual 180, 3) := by decide +kernel
theorem dX6_brings_44 : decode cX6_brings 44 = .ok (.ireturn, 1) := by decide +kernel
theorem dX6_bestReach_0 : decode cX6_bestReach 0 = .ok (.iload_n 1, 1) := by decide +kernel
theorem dX6_bestReach_1 : decode cX6_bestReach 1 = .ok (.invokestatic 174, 3) := by decide +kernel
theorem dX6_bestReach_4 : decode cX6_bestReach 4 = .ok (.ifCond .ne 6, 3) := by decide +kernel
theorem dX6_bestReach_7 : decode cX6_bestReach 7 = .ok (.bipush (-2), 2) := by decide +kernel
theorem dX6_bestReach_9 : decode cX6_bestReach 9 = .ok (.ireturn, 1) := by decide +kernel
theorem dX6_bestReach_10 : decode cX6_bestReach 10 = .ok (.bipush (-6), 2) := by decide +kernel
theorem dX6_bestReach_12 : decode cX6_bestReach 12 = .ok (.istore_n 2, 1) := by decide +kernel
theorem dX6_bestReach_13 : decode cX6_bestReach 13 = .ok (.iconst 0, 1) := by decide +kernel
theorem dX6_bestReach_14 : decode cX6_bestReach 14 = .ok (.istore_n 3, 1) := by decide +kernel
theorem dX6_bestReach_15 : decode cX6_bestReach 15 = .ok (.iconst 0, 1) := by decide +kernel
theorem dX6_bestReach_16 : decode cX6_bestReach 16 = .ok (.istore 4, 2) := by decide +kernel
theorem dX6_bestReach_18 : decode cX6_bestReach 18 = .ok (.getstatic 183, 3) := by decide +kernel
theorem dX6_bestReach_21 : decode cX6_bestReach 21 = .ok (.iconst 1, 1) := by decide +kernel
theorem dX6_bestReach_22 : decode cX6_bestReach 22 = .ok (.iaload, 1) := by decide +kernel
theorem dX6_bestReach_23 : decode cX6_bestReach 23 = .ok (.istore 5, 2) := by decide +kernel
theorem dX6_bestReach_25 : decode cX6_bestReach 25 = .ok (.iload 5, 2) := by decide +kernel
theorem dX6_bestReach_27 : decode cX6_bestReach 27 = .ok (.istore 6, 2) := by decide +kernel
theorem dX6_bestReach_29 : decode cX6_bestReach 29 = .ok (.iload 6, 2) := by decide +kernel
theorem dX6_bestReach_31 : decode cX6_bestReach 31 = .ok (.getstatic 186, 3) := by decide +kernel
theorem dX6_bestReach_34 : decode cX6_bestReach 34 = .ok (.iconst 1, 1) := by decide +kernel
theorem dX6_bestReach_35 : decode cX6_bestReach 35 = .ok (.iaload, 1) := by decide +kernel
theorem dX6_bestReach_36 : decode cX6_bestReach 36 = .ok (.if_icmp .gt 111, 3) := by decide +kernel
theorem dX6_bestReach_39 : decode cX6_bestReach 39 = .ok (.iload 6, 2) := by decide +kernel
theorem dX6_bestReach_41 : decode cX6_bestReach 41 = .ok (.iload 5, 2) := by decide +kernel
theorem dX6_bestReach_43 : decode cX6_bestReach 43 = .ok (.if_icmp .le 18, 3) := by decide +kernel
theorem dX6_bestReach_46 : decode cX6_bestReach 46 = .ok (.aload_n 0, 1) := by decide +kernel
theorem dX6_bestReach_47 : decode cX6_bestReach 47 = .ok (.getfield 10, 3) := by decide +kernel
theorem dX6_bestReach_50 : decode cX6_bestReach 50 = .ok (.iload 6, 2) := by decide +kernel
theorem dX6_bestReach_52 : decode cX6_bestReach 52 = .ok (.invokevirtual 189, 3) := by decide +kernel
theorem dX6_bestReach_55 : decode cX6_bestReach 55 = .ok (.ifCond .ne 6, 3) := by decide +kernel
theorem dX6_bestReach_58 : decode cX6_bestReach 58 = .ok (.goto 83, 3) := by decide +kernel
theorem dX6_bestReach_61 : decode cX6_bestReach 61 = .ok (.aload_n 0, 1) := by decide +kernel
theorem dX6_bestReach_62 : decode cX6_bestReach 62 = .ok (.getfield 16, 3) := by decide +kernel
theorem dX6_bestReach_65 : decode cX6_bestReach 65 = .ok (.aload_n 0, 1) := by decide +kernel
theorem dX6_bestReach_66 : decode cX6_bestReach 66 = .ok (.getfield 10, 3) := by decide +kernel
theorem dX6_bestReach_69 : decode cX6_bestReach 69 = .ok (.invokevirtual 177, 3) := by decide +kernel
theorem dX6_bestReach_72 : decode cX6_bestReach 72 = .ok (.aload_n 0, 1) := by decide +kernel
theorem dX6_bestReach_73 : decode cX6_bestReach 73 = .ok (.getfield 16, 3) := by decide +kernel
theorem dX6_bestReach_76 : decode cX6_bestReach 76 = .ok (.iconst 1, 1) := by decide +kernel
theorem dX6_bestReach_77 : decode cX6_bestReach 77 = .ok (.iload 6, 2) := by decide +kernel
theorem dX6_bestReach_79 : decode cX6_bestReach 79 = .ok (.invokevirtual 45, 3) := by decide +kernel
theorem dX6_bestReach_82 : decode cX6_bestReach 82 = .ok (.pop, 1) := by decide +kernel
theorem dX6_bestReach_83 : decode cX6_bestReach 83 = .ok (.aload_n 0, 1) := by decide +kernel
theorem dX6_bestReach_84 : decode cX6_bestReach 84 = .ok (.getfield 16, 3) := by decide +kernel
theorem dX6_bestReach_87 : decode cX6_bestReach 87 = .ok (.iload_n 1, 1) := by decide +kernel
theorem dX6_bestReach_88 : decode cX6_bestReach 88 = .ok (.invokevirtual 72, 3) := by decide +kernel
theorem dX6_bestReach_91 : decode cX6_bestReach 91 = .ok (.pop, 1) := by decide +kernel
theorem dX6_bestReach_92 : decode cX6_bestReach 92 = .ok (.aload_n 0, 1) := by decide +kernel
theorem dX6_bestReach_93 : decode cX6_bestReach 93 = .ok (.iconst 0, 1) := by decide +kernel
theorem dX6_bestReach_94 : decode cX6_bestReach 94 = .ok (.invokevirtual 180, 3) := by decide +kernel
theorem dX6_bestReach_97 : decode cX6_bestReach 97 = .ok (.istore 7, 2) := by decide +kernel
theorem dX6_bestReach_99 : decode cX6_bestReach 99 = .ok (.aload_n 0, 1) := by decide +kernel
theorem dX6_bestReach_100 : decode cX6_bestReach 100 = .ok (.iconst 1, 1) := by decide +kernel
theorem dX6_bestReach_101 : decode cX6_bestReach 101 = .ok (.invokevirtual 180, 3) := by decide +kernel
theorem dX6_bestReach_104 : decode cX6_bestReach 104 = .ok (.istore 8, 2) := by decide +kernel
theorem dX6_bestReach_106 : decode cX6_bestReach 106 = .ok (.iload_n 2, 1) := by decide +kernel
theorem dX6_bestReach_107 : decode cX6_bestReach 107 = .ok (.bipush (-6), 2) := by decide +kernel
theorem dX6_bestReach_109 : decode cX6_bestReach 109 = .ok (.if_icmp .eq 22, 3) := by decide +kernel
theorem dX6_bestReach_112 : decode cX6_bestReach 112 = .ok (.iload 7, 2) := by decide +kernel
theorem dX6_bestReach_114 : decode cX6_bestReach 114 = .ok (.iload_n 3, 1) := by decide +kernel
theorem dX6_bestReach_115 : decode cX6_bestReach 115 = .ok (.if_icmp .lt 16, 3) := by decide +kernel
theorem dX6_bestReach_118 : decode cX6_bestReach 118 = .ok (.iload 7, 2) := by decide +kernel
theorem dX6_bestReach_120 : decode cX6_bestReach 120 = .ok (.iload_n 3, 1) := by decide +kernel
theorem dX6_bestReach_121 : decode cX6_bestReach 121 = .ok (.if_icmp .ne 20, 3) := by decide +kernel
theorem dX6_bestReach_124 : decode cX6_bestReach 124 = .ok (.iload 8, 2) := by decide +kernel
theorem dX6_bestReach_126 : decode cX6_bestReach 126 = .ok (.iload 4, 2) := by decide +kernel
theorem dX6_bestReach_128 : decode cX6_bestReach 128 = .ok (.if_icmp .ge 13, 3) := by decide +kernel
theorem dX6_bestReach_131 : decode cX6_bestReach 131 = .ok (.iload 6, 2) := by decide +kernel
theorem dX6_bestReach_133 : decode cX6_bestReach 133 = .ok (.istore_n 2, 1) := by decide +kernel
theorem dX6_bestReach_134 : decode cX6_bestReach 134 = .ok (.iload 7, 2) := by decide +kernel
theorem dX6_bestReach_136 : decode cX6_bestReach 136 = .ok (.istore_n 3, 1) := by decide +kernel
theorem dX6_bestReach_137 : decode cX6_bestReach 137 = .ok (.iload 8, 2) := by decide +kernel
theorem dX6_bestReach_139 : decode cX6_bestReach 139 = .ok (.istore 4, 2) := by decide +kernel
theorem dX6_bestReach_141 : decode cX6_bestReach 141 = .ok (.iinc 6 1, 3) := by decide +kernel
theorem dX6_bestReach_144 : decode cX6_bestReach 144 = .ok (.goto (-115), 3) := by decide +kernel
theorem dX6_bestReach_147 : decode cX6_bestReach 147 = .ok (.iload_n 2, 1) := by decide +kernel
theorem dX6_bestReach_148 : decode cX6_bestReach 148 = .ok (.ireturn, 1) := by decide +kernel
theorem dX6_needless_0 : decode cX6_needless 0 = .ok (.aload_n 0, 1) := by decide +kernel
theorem dX6_needless_1 : decode cX6_needless 1 = .ok (.getfield 16, 3) := by decide +kernel
theorem dX6_needless_4 : decode cX6_needless 4 = .ok (.aload_n 0, 1) := by decide +kernel
theorem dX6_needless_5 : decode cX6_needless 5 = .ok (.getfield 10, 3) := by decide +kernel
theorem dX6_needless_8 : decode cX6_needless 8 = .ok (.invokevirtual 177, 3) := by decide +kernel
theorem dX6_needless_11 : decode cX6_needless 11 = .ok (.aload_n 0, 1) := by decide +kernel
theorem dX6_needless_12 : decode cX6_needless 12 = .ok (.getfield 16, 3) := by decide +kernel
theorem dX6_needless_15 : decode cX6_needless 15 = .ok (.bipush 100, 2) := by decide +kernel
theorem dX6_needless_17 : decode cX6_needless 17 = .ok (.invokevirtual 72, 3) := by decide +kernel
theorem dX6_needless_20 : decode cX6_needless 20 = .ok (.pop, 1) := by decide +kernel
theorem dX6_needless_21 : decode cX6_needless 21 = .ok (.aload_n 0, 1) := by decide +kernel
theorem dX6_needless_22 : decode cX6_needless 22 = .ok (.iconst 0, 1) := by decide +kernel
theorem dX6_needless_23 : decode cX6_needless 23 = .ok (.invokevirtual 180, 3) := by decide +kernel
theorem dX6_needless_26 : decode cX6_needless 26 = .ok (.istore_n 1, 1) := by decide +kernel
theorem dX6_needless_27 : decode cX6_needless 27 = .ok (.iconst 0, 1) := by decide +kernel
theorem dX6_needless_28 : decode cX6_needless 28 = .ok (.istore_n 2, 1) := by decide +kernel
theorem dX6_needless_29 : decode cX6_needless 29 = .ok (.iconst 0, 1) := by decide +kernel
theorem dX6_needless_30 : decode cX6_needless 30 = .ok (.istore_n 3, 1) := by decide +kernel
theorem dX6_needless_31 : decode cX6_needless 31 = .ok (.iload_n 3, 1) := by decide +kernel
theorem dX6_needless_32 : decode cX6_needless 32 = .ok (.aload_n 0, 1) := by decide +kernel
theorem dX6_needless_33 : decode cX6_needless 33 = .ok (.getfield 10, 3) := by decide +kernel
theorem dX6_needless_36 : decode cX6_needless 36 = .ok (.getfield 131, 3) := by decide +kernel
theorem dX6_needless_39 : decode cX6_needless 39 = .ok (.if_icmp .ge 55, 3) := by decide +kernel
theorem dX6_needless_42 : decode cX6_needless 42 = .ok (.aload_n 0, 1) := by decide +kernel
theorem dX6_needless_43 : decode cX6_needless 43 = .ok (.getfield 16, 3) := by decide +kernel
theorem dX6_needless_46 : decode cX6_needless 46 = .ok (.aload_n 0, 1) := by decide +kernel
theorem dX6_needless_47 : decode cX6_needless 47 = .ok (.getfield 10, 3) := by decide +kernel
theorem dX6_needless_50 : decode cX6_needless 50 = .ok (.invokevirtual 177, 3) := by decide +kernel
theorem dX6_needless_53 : decode cX6_needless 53 = .ok (.aload_n 0, 1) := by decide +kernel
theorem dX6_needless_54 : decode cX6_needless 54 = .ok (.getfield 16, 3) := by decide +kernel
theorem dX6_needless_57 : decode cX6_needless 57 = .ok (.iload_n 3, 1) := by decide +kernel
theorem dX6_needless_58 : decode cX6_needless 58 = .ok (.iconst 2, 1) := by decide +kernel
theorem dX6_needless_59 : decode cX6_needless 59 = .ok (.invokevirtual 66, 3) := by decide +kernel
theorem dX6_needless_62 : decode cX6_needless 62 = .ok (.pop, 1) := by decide +kernel
theorem dX6_needless_63 : decode cX6_needless 63 = .ok (.aload_n 0, 1) := by decide +kernel
theorem dX6_needless_64 : decode cX6_needless 64 = .ok (.getfield 16, 3) := by decide +kernel
theorem dX6_needless_67 : decode cX6_needless 67 = .ok (.bipush 100, 2) := by decide +kernel
theorem dX6_needless_69 : decode cX6_needless 69 = .ok (.invokevirtual 72, 3) := by decide +kernel
theorem dX6_needless_72 : decode cX6_needless 72 = .ok (.pop, 1) := by decide +kernel
theorem dX6_needless_73 : decode cX6_needless 73 = .ok (.aload_n 0, 1) := by decide +kernel
theorem dX6_needless_74 : decode cX6_needless 74 = .ok (.iconst 0, 1) := by decide +kernel
theorem dX6_needless_75 : decode cX6_needless 75 = .ok (.invokevirtual 180, 3) := by decide +kernel
theorem dX6_needless_78 : decode cX6_needless 78 = .ok (.iload_n 1, 1) := by decide +kernel
theorem dX6_needless_79 : decode cX6_needless 79 = .ok (.if_icmp .gt 9, 3) := by decide +kernel
theorem dX6_needless_82 : decode cX6_needless 82 = .ok (.iload_n 2, 1) := by decide +kernel
theorem dX6_needless_83 : decode cX6_needless 83 = .ok (.iconst 1, 1) := by decide +kernel
theorem dX6_needless_84 : decode cX6_needless 84 = .ok (.iload_n 3, 1) := by decide +kernel
theorem dX6_needless_85 : decode cX6_needless 85 = .ok (.ishl, 1) := by decide +kernel
theorem dX6_needless_86 : decode cX6_needless 86 = .ok (.ior, 1) := by decide +kernel
theorem dX6_needless_87 : decode cX6_needless 87 = .ok (.istore_n 2, 1) := by decide +kernel
theorem dX6_needless_88 : decode cX6_needless 88 = .ok (.iinc 3 1, 3) := by decide +kernel
theorem dX6_needless_91 : decode cX6_needless 91 = .ok (.goto (-60), 3) := by decide +kernel
theorem dX6_needless_94 : decode cX6_needless 94 = .ok (.iload_n 2, 1) := by decide +kernel
theorem dX6_needless_95 : decode cX6_needless 95 = .ok (.ireturn, 1) := by decide +kernel
theorem dX6_broughtByTrial_0 : decode cX6_broughtByTrial 0 = .ok (.aload_n 0, 1) := by decide +kernel
theorem dX6_broughtByTrial_1 : decode cX6_broughtByTrial 1 = .ok (.getfield 16, 3) := by decide +kernel
theorem dX6_broughtByTrial_4 : decode cX6_broughtByTrial 4 = .ok (.iload_n 1, 1) := by decide +kernel
theorem dX6_broughtByTrial_5 : decode cX6_broughtByTrial 5 = .ok (.invokevirtual 152, 3) := by decide +kernel
theorem dX6_broughtByTrial_8 : decode cX6_broughtByTrial 8 = .ok (.aload_n 0, 1) := by decide +kernel
theorem dX6_broughtByTrial_9 : decode cX6_broughtByTrial 9 = .ok (.getfield 10, 3) := by decide +kernel
theorem dX6_broughtByTrial_12 : decode cX6_broughtByTrial 12 = .ok (.iload_n 1, 1) := by decide +kernel
theorem dX6_broughtByTrial_13 : decode cX6_broughtByTrial 13 = .ok (.invokevirtual 152, 3) := by decide +kernel
theorem dX6_broughtByTrial_16 : decode cX6_broughtByTrial 16 = .ok (.isub, 1) := by decide +kernel
theorem dX6_broughtByTrial_17 : decode cX6_broughtByTrial 17 = .ok (.ireturn, 1) := by decide +kernel
theorem dX6_put_0 : decode cX6_put 0 = .ok (.lload_n 1, 1) := by decide +kernel
theorem dX6_put_1 : decode cX6_put 1 = .ok (.invokestatic 192, 3) := by decide +kernel
theorem dX6_put_4 : decode cX6_put 4 = .ok (.istore_n 3, 1) := by decide +kernel
theorem dX6_put_5 : decode cX6_put 5 = .ok (.iload_n 3, 1) := by decide +kernel
theorem dX6_put_6 : decode cX6_put 6 = .ok (.ifCond .ne 6, 3) := by decide +kernel
theorem dX6_put_9 : decode cX6_put 9 = .ok (.bipush (-2), 2) := by decide +kernel
theorem dX6_put_11 : decode cX6_put 11 = .ok (.ireturn, 1) := by decide +kernel
theorem dX6_put_12 : decode cX6_put 12 = .ok (.aload_n 0, 1) := by decide +kernel
theorem dX6_put_13 : decode cX6_put 13 = .ok (.getfield 37, 3) := by decide +kernel
theorem dX6_put_16 : decode cX6_put 16 = .ok (.getfield 155, 3) := by decide +kernel
theorem dX6_put_19 : decode cX6_put 19 = .ok (.iload_n 3, 1) := by decide +kernel
theorem dX6_put_20 : decode cX6_put 20 = .ok (.iadd, 1) := by decide +kernel
theorem dX6_put_21 : decode cX6_put 21 = .ok (.bipush 80, 2) := by decide +kernel
theorem dX6_put_23 : decode cX6_put 23 = .ok (.if_icmp .le 6, 3) := by decide +kernel
theorem dX6_put_26 : decode cX6_put 26 = .ok (.bipush (-4), 2) := by decide +kernel
theorem dX6_put_28 : decode cX6_put 28 = .ok (.ireturn, 1) := by decide +kernel
theorem dX6_put_29 : decode cX6_put 29 = .ok (.iload_n 3, 1) := by decide +kernel
theorem dX6_put_30 : decode cX6_put 30 = .ok (.iconst 1, 1) := by decide +kernel
theorem dX6_put_31 : decode cX6_put 31 = .ok (.isub, 1) := by decide +kernel
theorem dX6_put_32 : decode cX6_put 32 = .ok (.istore 4, 2) := by decide +kernel
theorem dX6_put_34 : decode cX6_put 34 = .ok (.iload 4, 2) := by decide +kernel
theorem dX6_put_36 : decode cX6_put 36 = .ok (.ifCond .lt 29, 3) := by decide +kernel
theorem dX6_put_39 : decode cX6_put 39 = .ok (.aload_n 0, 1) := by decide +kernel
theorem dX6_put_40 : decode cX6_put 40 = .ok (.getfield 37, 3) := by decide +kernel
theorem dX6_put_43 : decode cX6_put 43 = .ok (.lload_n 1, 1) := by decide +kernel
theorem dX6_put_44 : decode cX6_put 44 = .ok (.bipush 8, 2) := by decide +kernel
theorem dX6_put_46 : decode cX6_put 46 = .ok (.iload 4, 2) := by decide +kernel
theorem dX6_put_48 : decode cX6_put 48 = .ok (.imul, 1) := by decide +kernel
theorem dX6_put_49 : decode cX6_put 49 = .ok (.lushr, 1) := by decide +kernel
theorem dX6_put_50 : decode cX6_put 50 = .ok (.ldc2_w 196, 3) := by decide +kernel
theorem dX6_put_53 : decode cX6_put 53 = .ok (.land, 1) := by decide +kernel
theorem dX6_put_54 : decode cX6_put 54 = .ok (.l2i, 1) := by decide +kernel
theorem dX6_put_55 : decode cX6_put 55 = .ok (.i2c, 1) := by decide +kernel
theorem dX6_put_56 : decode cX6_put 56 = .ok (.invokevirtual 198, 3) := by decide +kernel
theorem dX6_put_59 : decode cX6_put 59 = .ok (.iinc 4 (-1), 3) := by decide +kernel
theorem dX6_put_62 : decode cX6_put 62 = .ok (.goto (-28), 3) := by decide +kernel
theorem dX6_put_65 : decode cX6_put 65 = .ok (.aload_n 0, 1) := by decide +kernel
theorem dX6_put_66 : decode cX6_put 66 = .ok (.getfield 37, 3) := by decide +kernel
theorem dX6_put_69 : decode cX6_put 69 = .ok (.getfield 155, 3) := by decide +kernel
theorem dX6_put_72 : decode cX6_put 72 = .ok (.ireturn, 1) := by decide +kernel
theorem dX6_wipe_0 : decode cX6_wipe 0 = .ok (.aload_n 0, 1) := by decide +kernel
theorem dX6_wipe_1 : decode cX6_wipe 1 = .ok (.getfield 37, 3) := by decide +kernel
theorem dX6_wipe_4 : decode cX6_wipe 4 = .ok (.getfield 155, 3) := by decide +kernel
theorem dX6_wipe_7 : decode cX6_wipe 7 = .ok (.istore_n 1, 1) := by decide +kernel
theorem dX6_wipe_8 : decode cX6_wipe 8 = .ok (.aload_n 0, 1) := by decide +kernel
theorem dX6_wipe_9 : decode cX6_wipe 9 = .ok (.getfield 37, 3) := by decide +kernel
theorem dX6_wipe_12 : decode cX6_wipe 12 = .ok (.invokevirtual 202, 3) := by decide +kernel
theorem dX6_wipe_15 : decode cX6_wipe 15 = .ok (.iload_n 1, 1) := by decide +kernel
theorem dX6_wipe_16 : decode cX6_wipe 16 = .ok (.ireturn, 1) := by decide +kernel
theorem dX6_fault_0 : decode cX6_fault 0 = .ok (.aload_n 0, 1) := by decide +kernel
theorem dX6_fault_1 : decode cX6_fault 1 = .ok (.getfield 37, 3) := by decide +kernel
theorem dX6_fault_4 : decode cX6_fault 4 = .ok (.invokevirtual 205, 3) := by decide +kernel
theorem dX6_fault_7 : decode cX6_fault 7 = .ok (.ireturn, 1) := by decide +kernel
theorem dX6_carryOut_0 : decode cX6_carryOut 0 = .ok (.aload_n 0, 1) := by decide +kernel
theorem dX6_carryOut_1 : decode cX6_carryOut 1 = .ok (.getfield 37, 3) := by decide +kernel
theorem dX6_carryOut_4 : decode cX6_carryOut 4 = .ok (.invokevirtual 205, 3) := by decide +kernel
theorem dX6_carryOut_7 : decode cX6_carryOut 7 = .ok (.bipush (-6), 2) := by decide +kernel
theorem dX6_carryOut_9 : decode cX6_carryOut 9 = .ok (.if_icmp .eq 6, 3) := by decide +kernel
theorem dX6_carryOut_12 : decode cX6_carryOut 12 = .ok (.bipush (-3), 2) := by decide +kernel
theorem dX6_carryOut_14 : decode cX6_carryOut 14 = .ok (.ireturn, 1) := by decide +kernel
theorem dX6_carryOut_15 : decode cX6_carryOut 15 = .ok (.aload_n 0, 1) := by decide +kernel
theorem dX6_carryOut_16 : decode cX6_carryOut 16 = .ok (.getfield 30, 3) := by decide +kernel
theorem dX6_carryOut_19 : decode cX6_carryOut 19 = .ok (.aload_n 0, 1) := by decide +kernel
theorem dX6_carryOut_20 : decode cX6_carryOut 20 = .ok (.getfield 10, 3) := by decide +kernel
theorem dX6_carryOut_23 : decode cX6_carryOut 23 = .ok (.invokevirtual 41, 3) := by decide +kernel
theorem dX6_carryOut_26 : decode cX6_carryOut 26 = .ok (.iconst 0, 1) := by decide +kernel
theorem dX6_carryOut_27 : decode cX6_carryOut 27 = .ok (.istore_n 1, 1) := by decide +kernel
theorem dX6_carryOut_28 : decode cX6_carryOut 28 = .ok (.aload_n 0, 1) := by decide +kernel
theorem dX6_carryOut_29 : decode cX6_carryOut 29 = .ok (.getfield 37, 3) := by decide +kernel
theorem dX6_carryOut_32 : decode cX6_carryOut 32 = .ok (.invokevirtual 208, 3) := by decide +kernel
theorem dX6_carryOut_35 : decode cX6_carryOut 35 = .ok (.iload_n 1, 1) := by decide +kernel
theorem dX6_carryOut_36 : decode cX6_carryOut 36 = .ok (.bipush 80, 2) := by decide +kernel
theorem dX6_carryOut_38 : decode cX6_carryOut 38 = .ok (.if_icmp .ge 26, 3) := by decide +kernel
theorem dX6_carryOut_41 : decode cX6_carryOut 41 = .ok (.aload_n 0, 1) := by decide +kernel
theorem dX6_carryOut_42 : decode cX6_carryOut 42 = .ok (.getfield 37, 3) := by decide +kernel
theorem dX6_carryOut_45 : decode cX6_carryOut 45 = .ok (.invokevirtual 211, 3) := by decide +kernel
theorem dX6_carryOut_48 : decode cX6_carryOut 48 = .ok (.ifCond .eq 16, 3) := by decide +kernel
theorem dX6_carryOut_51 : decode cX6_carryOut 51 = .ok (.aload_n 0, 1) := by decide +kernel
theorem dX6_carryOut_52 : decode cX6_carryOut 52 = .ok (.invokevirtual 215, 3) := by decide +kernel
theorem dX6_carryOut_55 : decode cX6_carryOut 55 = .ok (.ifCond .lt 9, 3) := by decide +kernel
theorem dX6_carryOut_58 : decode cX6_carryOut 58 = .ok (.iinc 1 1, 3) := by decide +kernel
theorem dX6_carryOut_61 : decode cX6_carryOut 61 = .ok (.goto (-26), 3) := by decide +kernel
theorem dX6_carryOut_64 : decode cX6_carryOut 64 = .ok (.aload_n 0, 1) := by decide +kernel
theorem dX6_carryOut_65 : decode cX6_carryOut 65 = .ok (.getfield 37, 3) := by decide +kernel
theorem dX6_carryOut_68 : decode cX6_carryOut 68 = .ok (.invokevirtual 202, 3) := by decide +kernel
theorem dX6_carryOut_71 : decode cX6_carryOut 71 = .ok (.aload_n 0, 1) := by decide +kernel
theorem dX6_carryOut_72 : decode cX6_carryOut 72 = .ok (.getfield 30, 3) := by decide +kernel
theorem dX6_carryOut_75 : decode cX6_carryOut 75 = .ok (.iload_n 1, 1) := by decide +kernel
theorem dX6_carryOut_76 : decode cX6_carryOut 76 = .ok (.invokevirtual 49, 3) := by decide +kernel
theorem dX6_carryOut_79 : decode cX6_carryOut 79 = .ok (.ireturn, 1) := by decide +kernel
theorem dX6_carryOrder_0 : decode cX6_carryOrder 0 = .ok (.aload_n 0, 1) := by decide +kernel
theorem dX6_carryOrder_1 : decode cX6_carryOrder 1 = .ok (.getfield 37, 3) := by decide +kernel
theorem dX6_carryOrder_4 : decode cX6_carryOrder 4 = .ok (.getfield 218, 3) := by decide +kernel
theorem dX6_carryOrder_7 : decode cX6_carryOrder 7 = .ok (.lookupswitch 106 #[(99, 46), (109, 63), (116, 89), (119, 41)], 41) := by decide +kernel
theorem dX6_carryOrder_48 : decode cX6_carryOrder 48 = .ok (.aload_n 0, 1) := by decide +kernel
theorem dX6_carryOrder_49 : decode cX6_carryOrder 49 = .ok (.invokevirtual 221, 3) := by decide +kernel
theorem dX6_carryOrder_52 : decode cX6_carryOrder 52 = .ok (.ireturn, 1) := by decide +kernel
theorem dX6_carryOrder_53 : decode cX6_carryOrder 53 = .ok (.aload_n 0, 1) := by decide +kernel
theorem dX6_carryOrder_54 : decode cX6_carryOrder 54 = .ok (.getfield 10, 3) := by decide +kernel
theorem dX6_carryOrder_57 : decode cX6_carryOrder 57 = .ok (.aload_n 0, 1) := by decide +kernel
theorem dX6_carryOrder_58 : decode cX6_carryOrder 58 = .ok (.getfield 37, 3) := by decide +kernel
theorem dX6_carryOrder_61 : decode cX6_carryOrder 61 = .ok (.getfield 224, 3) := by decide +kernel
theorem dX6_carryOrder_64 : decode cX6_carryOrder 64 = .ok (.iconst 0, 1) := by decide +kernel
theorem dX6_carryOrder_65 : decode cX6_carryOrder 65 = .ok (.iaload, 1) := by decide +kernel
theorem dX6_carryOrder_66 : decode cX6_carryOrder 66 = .ok (.invokevirtual 69, 3) := by decide +kernel
theorem dX6_carryOrder_69 : decode cX6_carryOrder 69 = .ok (.ireturn, 1) := by decide +kernel
theorem dX6_carryOrder_70 : decode cX6_carryOrder 70 = .ok (.aload_n 0, 1) := by decide +kernel
theorem dX6_carryOrder_71 : decode cX6_carryOrder 71 = .ok (.getfield 10, 3) := by decide +kernel
theorem dX6_carryOrder_74 : decode cX6_carryOrder 74 = .ok (.aload_n 0, 1) := by decide +kernel
theorem dX6_carryOrder_75 : decode cX6_carryOrder 75 = .ok (.getfield 37, 3) := by decide +kernel
theorem dX6_carryOrder_78 : decode cX6_carryOrder 78 = .ok (.getfield 224, 3) := by decide +kernel
theorem dX6_carryOrder_81 : decode cX6_carryOrder 81 = .ok (.iconst 0, 1) := by decide +kernel
theorem dX6_carryOrder_82 : decode cX6_carryOrder 82 = .ok (.iaload, 1) := by decide +kernel
theorem dX6_carryOrder_83 : decode cX6_carryOrder 83 = .ok (.aload_n 0, 1) := by decide +kernel
theorem dX6_carryOrder_84 : decode cX6_carryOrder 84 = .ok (.getfield 37, 3) := by decide +kernel
theorem dX6_carryOrder_87 : decode cX6_carryOrder 87 = .ok (.getfield 224, 3) := by decide +kernel
theorem dX6_carryOrder_90 : decode cX6_carryOrder 90 = .ok (.iconst 1, 1) := by decide +kernel
theorem dX6_carryOrder_91 : decode cX6_carryOrder 91 = .ok (.iaload, 1) := by decide +kernel
theorem dX6_carryOrder_92 : decode cX6_carryOrder 92 = .ok (.invokevirtual 66, 3) := by decide +kernel
theorem dX6_carryOrder_95 : decode cX6_carryOrder 95 = .ok (.ireturn, 1) := by decide +kernel
theorem dX6_carryOrder_96 : decode cX6_carryOrder 96 = .ok (.aload_n 0, 1) := by decide +kernel
theorem dX6_carryOrder_97 : decode cX6_carryOrder 97 = .ok (.getfield 10, 3) := by decide +kernel
theorem dX6_carryOrder_100 : decode cX6_carryOrder 100 = .ok (.aload_n 0, 1) := by decide +kernel
theorem dX6_carryOrder_101 : decode cX6_carryOrder 101 = .ok (.getfield 37, 3) := by decide +kernel
theorem dX6_carryOrder_104 : decode cX6_carryOrder 104 = .ok (.getfield 224, 3) := by decide +kernel
theorem dX6_carryOrder_107 : decode cX6_carryOrder 107 = .ok (.iconst 0, 1) := by decide +kernel
theorem dX6_carryOrder_108 : decode cX6_carryOrder 108 = .ok (.iaload, 1) := by decide +kernel
theorem dX6_carryOrder_109 : decode cX6_carryOrder 109 = .ok (.invokevirtual 72, 3) := by decide +kernel
theorem dX6_carryOrder_112 : decode cX6_carryOrder 112 = .ok (.ireturn, 1) := by decide +kernel
theorem dX6_carryOrder_113 : decode cX6_carryOrder 113 = .ok (.bipush (-3), 2) := by decide +kernel
theorem dX6_carryOrder_115 : decode cX6_carryOrder 115 = .ok (.ireturn, 1) := by decide +kernel
theorem dX6_carryWalkerIn_0 : decode cX6_carryWalkerIn 0 = .ok (.aload_n 0, 1) := by decide +kernel
theorem dX6_carryWalkerIn_1 : decode cX6_carryWalkerIn 1 = .ok (.getfield 10, 3) := by decide +kernel
theorem dX6_carryWalkerIn_4 : decode cX6_carryWalkerIn 4 = .ok (.aload_n 0, 1) := by decide +kernel
theorem dX6_carryWalkerIn_5 : decode cX6_carryWalkerIn 5 = .ok (.getfield 37, 3) := by decide +kernel
theorem dX6_carryWalkerIn_8 : decode cX6_carryWalkerIn 8 = .ok (.getfield 224, 3) := by decide +kernel
theorem dX6_carryWalkerIn_11 : decode cX6_carryWalkerIn 11 = .ok (.iconst 0, 1) := by decide +kernel
theorem dX6_carryWalkerIn_12 : decode cX6_carryWalkerIn 12 = .ok (.iaload, 1) := by decide +kernel
theorem dX6_carryWalkerIn_13 : decode cX6_carryWalkerIn 13 = .ok (.aload_n 0, 1) := by decide +kernel
theorem dX6_carryWalkerIn_14 : decode cX6_carryWalkerIn 14 = .ok (.getfield 37, 3) := by decide +kernel
theorem dX6_carryWalkerIn_17 : decode cX6_carryWalkerIn 17 = .ok (.getfield 224, 3) := by decide +kernel
theorem dX6_carryWalkerIn_20 : decode cX6_carryWalkerIn 20 = .ok (.iconst 1, 1) := by decide +kernel
theorem dX6_carryWalkerIn_21 : decode cX6_carryWalkerIn 21 = .ok (.iaload, 1) := by decide +kernel
theorem dX6_carryWalkerIn_22 : decode cX6_carryWalkerIn 22 = .ok (.invokevirtual 59, 3) := by decide +kernel
theorem dX6_carryWalkerIn_25 : decode cX6_carryWalkerIn 25 = .ok (.istore_n 1, 1) := by decide +kernel
theorem dX6_carryWalkerIn_26 : decode cX6_carryWalkerIn 26 = .ok (.iload_n 1, 1) := by decide +kernel
theorem dX6_carryWalkerIn_27 : decode cX6_carryWalkerIn 27 = .ok (.istore_n 2, 1) := by decide +kernel
theorem dX6_carryWalkerIn_28 : decode cX6_carryWalkerIn 28 = .ok (.iconst 2, 1) := by decide +kernel
theorem dX6_carryWalkerIn_29 : decode cX6_carryWalkerIn 29 = .ok (.istore_n 3, 1) := by decide +kernel
theorem dX6_carryWalkerIn_30 : decode cX6_carryWalkerIn 30 = .ok (.iload_n 3, 1) := by decide +kernel
theorem dX6_carryWalkerIn_31 : decode cX6_carryWalkerIn 31 = .ok (.iconst 1, 1) := by decide +kernel
theorem dX6_carryWalkerIn_32 : decode cX6_carryWalkerIn 32 = .ok (.iadd, 1) := by decide +kernel
theorem dX6_carryWalkerIn_33 : decode cX6_carryWalkerIn 33 = .ok (.aload_n 0, 1) := by decide +kernel
theorem dX6_carryWalkerIn_34 : decode cX6_carryWalkerIn 34 = .ok (.getfield 37, 3) := by decide +kernel
theorem dX6_carryWalkerIn_37 : decode cX6_carryWalkerIn 37 = .ok (.getfield 227, 3) := by decide +kernel
theorem dX6_carryWalkerIn_40 : decode cX6_carryWalkerIn 40 = .ok (.if_icmp .ge 42, 3) := by decide +kernel
theorem dX6_carryWalkerIn_43 : decode cX6_carryWalkerIn 43 = .ok (.iload_n 2, 1) := by decide +kernel
theorem dX6_carryWalkerIn_44 : decode cX6_carryWalkerIn 44 = .ok (.ifCond .lt 38, 3) := by decide +kernel
theorem dX6_carryWalkerIn_47 : decode cX6_carryWalkerIn 47 = .ok (.aload_n 0, 1) := by decide +kernel
theorem dX6_carryWalkerIn_48 : decode cX6_carryWalkerIn 48 = .ok (.getfield 10, 3) := by decide +kernel
theorem dX6_carryWalkerIn_51 : decode cX6_carryWalkerIn 51 = .ok (.iload_n 1, 1) := by decide +kernel
theorem dX6_carryWalkerIn_52 : decode cX6_carryWalkerIn 52 = .ok (.aload_n 0, 1) := by decide +kernel
theorem dX6_carryWalkerIn_53 : decode cX6_carryWalkerIn 53 = .ok (.getfield 37, 3) := by decide +kernel
theorem dX6_carryWalkerIn_56 : decode cX6_carryWalkerIn 56 = .ok (.getfield 224, 3) := by decide +kernel
theorem dX6_carryWalkerIn_59 : decode cX6_carryWalkerIn 59 = .ok (.iload_n 3, 1) := by decide +kernel
theorem dX6_carryWalkerIn_60 : decode cX6_carryWalkerIn 60 = .ok (.iaload, 1) := by decide +kernel
theorem dX6_carryWalkerIn_61 : decode cX6_carryWalkerIn 61 = .ok (.aload_n 0, 1) := by decide +kernel
theorem dX6_carryWalkerIn_62 : decode cX6_carryWalkerIn 62 = .ok (.getfield 37, 3) := by decide +kernel
theorem dX6_carryWalkerIn_65 : decode cX6_carryWalkerIn 65 = .ok (.getfield 224, 3) := by decide +kernel
theorem dX6_carryWalkerIn_68 : decode cX6_carryWalkerIn 68 = .ok (.iload_n 3, 1) := by decide +kernel
theorem dX6_carryWalkerIn_69 : decode cX6_carryWalkerIn 69 = .ok (.iconst 1, 1) := by decide +kernel
theorem dX6_carryWalkerIn_70 : decode cX6_carryWalkerIn 70 = .ok (.iadd, 1) := by decide +kernel
theorem dX6_carryWalkerIn_71 : decode cX6_carryWalkerIn 71 = .ok (.iaload, 1) := by decide +kernel
theorem dX6_carryWalkerIn_72 : decode cX6_carryWalkerIn 72 = .ok (.invokevirtual 62, 3) := by decide +kernel
theorem dX6_carryWalkerIn_75 : decode cX6_carryWalkerIn 75 = .ok (.istore_n 2, 1) := by decide +kernel
theorem dX6_carryWalkerIn_76 : decode cX6_carryWalkerIn 76 = .ok (.iinc 3 2, 3) := by decide +kernel
theorem dX6_carryWalkerIn_79 : decode cX6_carryWalkerIn 79 = .ok (.goto (-49), 3) := by decide +kernel
theorem dX6_carryWalkerIn_82 : decode cX6_carryWalkerIn 82 = .ok (.iload_n 2, 1) := by decide +kernel
theorem dX6_carryWalkerIn_83 : decode cX6_carryWalkerIn 83 = .ok (.ireturn, 1) := by decide +kernel
theorem dX6_countSigns_0 : decode cX6_countSigns 0 = .ok (.lload_n 0, 1) := by decide +kernel
theorem dX6_countSigns_1 : decode cX6_countSigns 1 = .ok (.lstore_n 2, 1) := by decide +kernel
theorem dX6_countSigns_2 : decode cX6_countSigns 2 = .ok (.iconst 0, 1) := by decide +kernel
theorem dX6_countSigns_3 : decode cX6_countSigns 3 = .ok (.istore 4, 2) := by decide +kernel
theorem dX6_countSigns_5 : decode cX6_countSigns 5 = .ok (.iconst 0, 1) := by decide +kernel
theorem dX6_countSigns_6 : decode cX6_countSigns 6 = .ok (.istore 5, 2) := by decide +kernel
theorem dX6_countSigns_8 : decode cX6_countSigns 8 = .ok (.iload 5, 2) := by decide +kernel
theorem dX6_countSigns_10 : decode cX6_countSigns 10 = .ok (.bipush 8, 2) := by decide +kernel
theorem dX6_countSigns_12 : decode cX6_countSigns 12 = .ok (.if_icmp .ge 41, 3) := by decide +kernel
theorem dX6_countSigns_15 : decode cX6_countSigns 15 = .ok (.lload_n 2, 1) := by decide +kernel
theorem dX6_countSigns_16 : decode cX6_countSigns 16 = .ok (.lconst 0, 1) := by decide +kernel
theorem dX6_countSigns_17 : decode cX6_countSigns 17 = .ok (.lcmp, 1) := by decide +kernel
theorem dX6_countSigns_18 : decode cX6_countSigns 18 = .ok (.ifCond .eq 35, 3) := by decide +kernel
theorem dX6_countSigns_21 : decode cX6_countSigns 21 = .ok (.lload_n 2, 1) := by decide +kernel
theorem dX6_countSigns_22 : decode cX6_countSigns 22 = .ok (.ldc2_w 196, 3) := by decide +kernel
theorem dX6_countSigns_25 : decode cX6_countSigns 25 = .ok (.land, 1) := by decide +kernel
theorem dX6_countSigns_26 : decode cX6_countSigns 26 = .ok (.l2i, 1) := by decide +kernel
theorem dX6_countSigns_27 : decode cX6_countSigns 27 = .ok (.bipush 33, 2) := by decide +kernel
theorem dX6_countSigns_29 : decode cX6_countSigns 29 = .ok (.bipush 126, 2) := by decide +kernel
theorem dX6_countSigns_31 : decode cX6_countSigns 31 = .ok (.invokestatic 119, 3) := by decide +kernel
theorem dX6_countSigns_34 : decode cX6_countSigns 34 = .ok (.ifCond .ne 5, 3) := by decide +kernel
theorem dX6_countSigns_37 : decode cX6_countSigns 37 = .ok (.iconst 0, 1) := by decide +kernel
theorem dX6_countSigns_38 : decode cX6_countSigns 38 = .ok (.ireturn, 1) := by decide +kernel
theorem dX6_countSigns_39 : decode cX6_countSigns 39 = .ok (.iinc 4 1, 3) := by decide +kernel
theorem dX6_countSigns_42 : decode cX6_countSigns 42 = .ok (.lload_n 2, 1) := by decide +kernel
theorem dX6_countSigns_43 : decode cX6_countSigns 43 = .ok (.bipush 8, 2) := by decide +kernel
theorem dX6_countSigns_45 : decode cX6_countSigns 45 = .ok (.lushr, 1) := by decide +kernel
theorem dX6_countSigns_46 : decode cX6_countSigns 46 = .ok (.lstore_n 2, 1) := by decide +kernel
theorem dX6_countSigns_47 : decode cX6_countSigns 47 = .ok (.iinc 5 1, 3) := by decide +kernel
theorem dX6_countSigns_50 : decode cX6_countSigns 50 = .ok (.goto (-42), 3) := by decide +kernel
theorem dX6_countSigns_53 : decode cX6_countSigns 53 = .ok (.iload 4, 2) := by decide +kernel
theorem dX6_countSigns_55 : decode cX6_countSigns 55 = .ok (.ireturn, 1) := by decide +kernel
theorem dX6_undo_0 : decode cX6_undo 0 = .ok (.aload_n 0, 1) := by decide +kernel
theorem dX6_undo_1 : decode cX6_undo 1 = .ok (.getfield 30, 3) := by decide +kernel
theorem dX6_undo_4 : decode cX6_undo 4 = .ok (.aload_n 0, 1) := by decide +kernel
theorem dX6_undo_5 : decode cX6_undo 5 = .ok (.getfield 10, 3) := by decide +kernel
theorem dX6_undo_8 : decode cX6_undo 8 = .ok (.invokevirtual 230, 3) := by decide +kernel
theorem dX6_undo_11 : decode cX6_undo 11 = .ok (.ireturn, 1) := by decide +kernel
theorem dX6_save_0 : decode cX6_save 0 = .ok (.iload_n 1, 1) := by decide +kernel
theorem dX6_save_1 : decode cX6_save 1 = .ok (.iconst 0, 1) := by decide +kernel
theorem dX6_save_2 : decode cX6_save 2 = .ok (.iconst 1, 1) := by decide +kernel
theorem dX6_save_3 : decode cX6_save 3 = .ok (.invokestatic 119, 3) := by decide +kernel
theorem dX6_save_6 : decode cX6_save 6 = .ok (.ifCond .ne 6, 3) := by decide +kernel
theorem dX6_save_9 : decode cX6_save 9 = .ok (.bipush (-2), 2) := by decide +kernel
theorem dX6_save_11 : decode cX6_save 11 = .ok (.ireturn, 1) := by decide +kernel
theorem dX6_save_12 : decode cX6_save 12 = .ok (.aload_n 0, 1) := by decide +kernel
theorem dX6_save_13 : decode cX6_save 13 = .ok (.getfield 19, 3) := by decide +kernel
theorem dX6_save_16 : decode cX6_save 16 = .ok (.iload_n 1, 1) := by decide +kernel
theorem dX6_save_17 : decode cX6_save 17 = .ok (.aaload, 1) := by decide +kernel
theorem dX6_save_18 : decode cX6_save 18 = .ok (.aload_n 0, 1) := by decide +kernel
theorem dX6_save_19 : decode cX6_save 19 = .ok (.getfield 10, 3) := by decide +kernel
theorem dX6_save_22 : decode cX6_save 22 = .ok (.invokevirtual 177, 3) := by decide +kernel
theorem dX6_save_25 : decode cX6_save 25 = .ok (.aload_n 0, 1) := by decide +kernel
theorem dX6_save_26 : decode cX6_save 26 = .ok (.getfield 23, 3) := by decide +kernel
theorem dX6_save_29 : decode cX6_save 29 = .ok (.iload_n 1, 1) := by decide +kernel
theorem dX6_save_30 : decode cX6_save 30 = .ok (.iconst 1, 1) := by decide +kernel
theorem dX6_save_31 : decode cX6_save 31 = .ok (.bastore, 1) := by decide +kernel
theorem dX6_save_32 : decode cX6_save 32 = .ok (.aload_n 0, 1) := by decide +kernel
theorem dX6_save_33 : decode cX6_save 33 = .ok (.getfield 10, 3) := by decide +kernel
theorem dX6_save_36 : decode cX6_save 36 = .ok (.getfield 127, 3) := by decide +kernel
theorem dX6_save_39 : decode cX6_save 39 = .ok (.ireturn, 1) := by decide +kernel
theorem dX6_restore_0 : decode cX6_restore 0 = .ok (.iload_n 1, 1) := by decide +kernel
theorem dX6_restore_1 : decode cX6_restore 1 = .ok (.iconst 0, 1) := by decide +kernel
theorem dX6_restore_2 : decode cX6_restore 2 = .ok (.iconst 1, 1) := by decide +kernel
theorem dX6_restore_3 : decode cX6_restore 3 = .ok (.invokestatic 119, 3) := by decide +kernel
theorem dX6_restore_6 : decode cX6_restore 6 = .ok (.ifCond .ne 6, 3) := by decide +kernel
theorem dX6_restore_9 : decode cX6_restore 9 = .ok (.bipush (-2), 2) := by decide +kernel
theorem dX6_restore_11 : decode cX6_restore 11 = .ok (.ireturn, 1) := by decide +kernel
theorem dX6_restore_12 : decode cX6_restore 12 = .ok (.aload_n 0, 1) := by decide +kernel
theorem dX6_restore_13 : decode cX6_restore 13 = .ok (.getfield 23, 3) := by decide +kernel
theorem dX6_restore_16 : decode cX6_restore 16 = .ok (.iload_n 1, 1) := by decide +kernel
theorem dX6_restore_17 : decode cX6_restore 17 = .ok (.baload, 1) := by decide +kernel
theorem dX6_restore_18 : decode cX6_restore 18 = .ok (.ifCond .ne 6, 3) := by decide +kernel
theorem dX6_restore_21 : decode cX6_restore 21 = .ok (.bipush (-5), 2) := by decide +kernel
theorem dX6_restore_23 : decode cX6_restore 23 = .ok (.ireturn, 1) := by decide +kernel
theorem dX6_restore_24 : decode cX6_restore 24 = .ok (.aload_n 0, 1) := by decide +kernel
theorem dX6_restore_25 : decode cX6_restore 25 = .ok (.getfield 30, 3) := by decide +kernel
theorem dX6_restore_28 : decode cX6_restore 28 = .ok (.aload_n 0, 1) := by decide +kernel
theorem dX6_restore_29 : decode cX6_restore 29 = .ok (.getfield 10, 3) := by decide +kernel
theorem dX6_restore_32 : decode cX6_restore 32 = .ok (.invokevirtual 41, 3) := by decide +kernel
theorem dX6_restore_35 : decode cX6_restore 35 = .ok (.aload_n 0, 1) := by decide +kernel
theorem dX6_restore_36 : decode cX6_restore 36 = .ok (.getfield 10, 3) := by decide +kernel
theorem dX6_restore_39 : decode cX6_restore 39 = .ok (.aload_n 0, 1) := by decide +kernel
theorem dX6_restore_40 : decode cX6_restore 40 = .ok (.getfield 19, 3) := by decide +kernel
theorem dX6_restore_43 : decode cX6_restore 43 = .ok (.iload_n 1, 1) := by decide +kernel
theorem dX6_restore_44 : decode cX6_restore 44 = .ok (.aaload, 1) := by decide +kernel
theorem dX6_restore_45 : decode cX6_restore 45 = .ok (.invokevirtual 177, 3) := by decide +kernel
theorem dX6_restore_48 : decode cX6_restore 48 = .ok (.aload_n 0, 1) := by decide +kernel
theorem dX6_restore_49 : decode cX6_restore 49 = .ok (.getfield 30, 3) := by decide +kernel
theorem dX6_restore_52 : decode cX6_restore 52 = .ok (.aload_n 0, 1) := by decide +kernel
theorem dX6_restore_53 : decode cX6_restore 53 = .ok (.getfield 10, 3) := by decide +kernel
theorem dX6_restore_56 : decode cX6_restore 56 = .ok (.getfield 127, 3) := by decide +kernel
theorem dX6_restore_59 : decode cX6_restore 59 = .ok (.invokevirtual 49, 3) := by decide +kernel
theorem dX6_restore_62 : decode cX6_restore 62 = .ok (.ireturn, 1) := by decide +kernel
theorem dX6_within_0 : decode cX6_within 0 = .ok (.iload_n 0, 1) := by decide +kernel
theorem dX6_within_1 : decode cX6_within 1 = .ok (.iload_n 1, 1) := by decide +kernel
theorem dX6_within_2 : decode cX6_within 2 = .ok (.if_icmp .lt 12, 3) := by decide +kernel
theorem dX6_within_5 : decode cX6_within 5 = .ok (.iload_n 0, 1) := by decide +kernel
theorem dX6_within_6 : decode cX6_within 6 = .ok (.iload_n 2, 1) := by decide +kernel
theorem dX6_within_7 : decode cX6_within 7 = .ok (.if_icmp .gt 7, 3) := by decide +kernel
theorem dX6_within_10 : decode cX6_within 10 = .ok (.iconst 1, 1) := by decide +kernel
theorem dX6_within_11 : decode cX6_within 11 = .ok (.goto 4, 3) := by decide +kernel
theorem dX6_within_14 : decode cX6_within 14 = .ok (.iconst 0, 1) := by decide +kernel
theorem dX6_within_15 : decode cX6_within 15 = .ok (.ireturn, 1) := by decide +kernel
theorem dX6_isStep_0 : decode cX6_isStep 0 = .ok (.iload_n 0, 1) := by decide +kernel
theorem dX6_isStep_1 : decode cX6_isStep 1 = .ok (.iconst 0, 1) := by decide +kernel
theorem dX6_isStep_2 : decode cX6_isStep 2 = .ok (.bipush 99, 2) := by decide +kernel
theorem dX6_isStep_4 : decode cX6_isStep 4 = .ok (.invokestatic 119, 3) := by decide +kernel
theorem dX6_isStep_7 : decode cX6_isStep 7 = .ok (.ireturn, 1) := by decide +kernel
theorem dX6_isTicks_0 : decode cX6_isTicks 0 = .ok (.iload_n 0, 1) := by decide +kernel
theorem dX6_isTicks_1 : decode cX6_isTicks 1 = .ok (.iconst 1, 1) := by decide +kernel
theorem dX6_isTicks_2 : decode cX6_isTicks 2 = .ok (.sipush 200, 3) := by decide +kernel
theorem dX6_isTicks_5 : decode cX6_isTicks 5 = .ok (.invokestatic 119, 3) := by decide +kernel
theorem dX6_isTicks_8 : decode cX6_isTicks 8 = .ok (.ireturn, 1) := by decide +kernel
theorem dX7_init_0 : decode cX7_init 0 = .ok (.aload_n 0, 1) := by decide +kernel
theorem dX7_init_1 : decode cX7_init 1 = .ok (.invokespecial 1, 3) := by decide +kernel
theorem dX7_init_4 : decode cX7_init 4 = .ok (.aload_n 0, 1) := by decide +kernel
theorem dX7_init_5 : decode cX7_init 5 = .ok (.sipush 440, 3) := by decide +kernel
theorem dX7_init_8 : decode cX7_init 8 = .ok (.newarray .int, 2) := by decide +kernel
theorem dX7_init_10 : decode cX7_init 10 = .ok (.putfield 7, 3) := by decide +kernel
theorem dX7_init_13 : decode cX7_init 13 = .ok (.aload_n 0, 1) := by decide +kernel
theorem dX7_init_14 : decode cX7_init 14 = .ok (.sipush 2640, 3) := by decide +kernel
theorem dX7_init_17 : decode cX7_init 17 = .ok (.newarray .int, 2) := by decide +kernel
theorem dX7_init_19 : decode cX7_init 19 = .ok (.putfield 13, 3) := by decide +kernel
theorem dX7_init_22 : decode cX7_init 22 = .ok (.aload_n 0, 1) := by decide +kernel
theorem dX7_init_23 : decode cX7_init 23 = .ok (.sipush 880, 3) := by decide +kernel
theorem dX7_init_26 : decode cX7_init 26 = .ok (.newarray .int, 2) := by decide +kernel
theorem dX7_init_28 : decode cX7_init 28 = .ok (.putfield 16, 3) := by decide +kernel
theorem dX7_init_31 : decode cX7_init 31 = .ok (.aload_n 0, 1) := by decide +kernel
theorem dX7_init_32 : decode cX7_init 32 = .ok (.iconst 2, 1) := by decide +kernel
theorem dX7_init_33 : decode cX7_init 33 = .ok (.newarray .boolean, 2) := by decide +kernel
theorem dX7_init_35 : decode cX7_init 35 = .ok (.putfield 19, 3) := by decide +kernel
theorem dX7_init_38 : decode cX7_init 38 = .ok (.aload_n 0, 1) := by decide +kernel
theorem dX7_init_39 : decode cX7_init 39 = .ok (.sipush 440, 3) := by decide +kernel
theorem dX7_init_42 : decode cX7_init 42 = .ok (.newarray .int, 2) := by decide +kernel
theorem dX7_init_44 : decode cX7_init 44 = .ok (.putfield 23, 3) := by decide +kernel
theorem dX7_init_47 : decode cX7_init 47 = .ok (.aload_n 0, 1) := by decide +kernel
theorem dX7_init_48 : decode cX7_init 48 = .ok (.bipush 16, 2) := by decide +kernel
theorem dX7_init_50 : decode cX7_init 50 = .ok (.newarray .int, 2) := by decide +kernel
theorem dX7_init_52 : decode cX7_init 52 = .ok (.putfield 26, 3) := by decide +kernel
theorem dX7_init_55 : decode cX7_init 55 = .ok (.aload_n 0, 1) := by decide +kernel
theorem dX7_init_56 : decode cX7_init 56 = .ok (.bipush 16, 2) := by decide +kernel
theorem dX7_init_58 : decode cX7_init 58 = .ok (.newarray .int, 2) := by decide +kernel
theorem dX7_init_60 : decode cX7_init 60 = .ok (.putfield 29, 3) := by decide +kernel
theorem dX7_init_63 : decode cX7_init 63 = .ok (.aload_n 0, 1) := by decide +kernel
theorem dX7_init_64 : decode cX7_init 64 = .ok (.bipush 80, 2) := by decide +kernel
theorem dX7_init_66 : decode cX7_init 66 = .ok (.newarray .int, 2) := by decide +kernel
theorem dX7_init_68 : decode cX7_init 68 = .ok (.putfield 32, 3) := by decide +kernel
theorem dX7_init_71 : decode cX7_init 71 = .ok (.aload_n 0, 1) := by decide +kernel
theorem dX7_init_72 : decode cX7_init 72 = .ok (.bipush 29, 2) := by decide +kernel
theorem dX7_init_74 : decode cX7_init 74 = .ok (.newarray .int, 2) := by decide +kernel
theorem dX7_init_76 : decode cX7_init 76 = .ok (.putfield 35, 3) := by decide +kernel
theorem dX7_init_79 : decode cX7_init 79 = .ok (.aload_n 0, 1) := by decide +kernel
theorem dX7_init_80 : decode cX7_init 80 = .ok (.bipush 30, 2) := by decide +kernel
theorem dX7_init_82 : decode cX7_init 82 = .ok (.newarray .int, 2) := by decide +kernel
theorem dX7_init_84 : decode cX7_init 84 = .ok (.putfield 38, 3) := by decide +kernel
theorem dX7_init_87 : decode cX7_init 87 = .ok (.aload_n 0, 1) := by decide +kernel
theorem dX7_init_88 : decode cX7_init 88 = .ok (.bipush 92, 2) := by decide +kernel
theorem dX7_init_90 : decode cX7_init 90 = .ok (.newarray .int, 2) := by decide +kernel
theorem dX7_init_92 : decode cX7_init 92 = .ok (.putfield 41, 3) := by decide +kernel
theorem dX7_init_95 : decode cX7_init 95 = .ok (.aload_n 0, 1) := by decide +kernel
theorem dX7_init_96 : decode cX7_init 96 = .ok (.getfield 7, 3) := by decide +kernel
theorem dX7_init_99 : decode cX7_init 99 = .ok (.iconst 0, 1) := by decide +kernel
theorem dX7_init_100 : decode cX7_init 100 = .ok (.iconst 3, 1) := by decide +kernel
theorem dX7_init_101 : decode cX7_init 101 = .ok (.iastore, 1) := by decide +kernel
theorem dX7_init_102 : decode cX7_init 102 = .ok (.aload_n 0, 1) := by decide +kernel
theorem dX7_init_103 : decode cX7_init 103 = .ok (.getfield 7, 3) := by decide +kernel
theorem dX7_init_106 : decode cX7_init 106 = .ok (.iconst 1, 1) := by decide +kernel
theorem dX7_init_107 : decode cX7_init 107 = .ok (.bipush 14, 2) := by decide +kernel
theorem dX7_init_109 : decode cX7_init 109 = .ok (.iastore, 1) := by decide +kernel
theorem dX7_init_110 : decode cX7_init 110 = .ok (.aload_n 0, 1) := by decide +kernel
theorem dX7_init_111 : decode cX7_init 111 = .ok (.getfield 7, 3) := by decide +kernel
theorem dX7_init_114 : decode cX7_init 114 = .ok (.iconst 2, 1) := by decide +kernel
theorem dX7_init_115 : decode cX7_init 115 = .ok (.bipush 8, 2) := by decide +kernel
theorem dX7_init_117 : decode cX7_init 117 = .ok (.iastore, 1) := by decide +kernel
theorem dX7_init_118 : decode cX7_init 118 = .ok (.aload_n 0, 1) := by decide +kernel
theorem dX7_init_119 : decode cX7_init 119 = .ok (.getfield 7, 3) := by decide +kernel
theorem dX7_init_122 : decode cX7_init 122 = .ok (.iconst 3, 1) := by decide +kernel
theorem dX7_init_123 : decode cX7_init 123 = .ok (.bipush 6, 2) := by decide +kernel
theorem dX7_init_125 : decode cX7_init 125 = .ok (.iastore, 1) := by decide +kernel
theorem dX7_init_126 : decode cX7_init 126 = .ok (.aload_n 0, 1) := by decide +kernel
theorem dX7_init_127 : decode cX7_init 127 = .ok (.getfield 7, 3) := by decide +kernel
theorem dX7_init_130 : decode cX7_init 130 = .ok (.iconst 4, 1) := by decide +kernel
theorem dX7_init_131 : decode cX7_init 131 = .ok (.iconst 2, 1) := by decide +kernel
theorem dX7_init_132 : decode cX7_init 132 = .ok (.iastore, 1) := by decide +kernel
theorem dX7_init_133 : decode cX7_init 133 = .ok (.aload_n 0, 1) := by decide +kernel
theorem dX7_init_134 : decode cX7_init 134 = .ok (.getfield 7, 3) := by decide +kernel
theorem dX7_init_137 : decode cX7_init 137 = .ok (.iconst 5, 1) := by decide +kernel
theorem dX7_init_138 : decode cX7_init 138 = .ok (.iconst 2, 1) := by decide +kernel
theorem dX7_init_139 : decode cX7_init 139 = .ok (.iastore, 1) := by decide +kernel
theorem dX7_init_140 : decode cX7_init 140 = .ok (.return_, 1) := by decide +kernel
theorem dX7_in_0 : decode cX7_in 0 = .ok (.iload_n 0, 1) := by decide +kernel
theorem dX7_in_1 : decode cX7_in 1 = .ok (.iload_n 1, 1) := by decide +kernel
theorem dX7_in_2 : decode cX7_in 2 = .ok (.if_icmp .lt 12, 3) := by decide +kernel
theorem dX7_in_5 : decode cX7_in 5 = .ok (.iload_n 0, 1) := by decide +kernel
theorem dX7_in_6 : decode cX7_in 6 = .ok (.iload_n 2, 1) := by decide +kernel
theorem dX7_in_7 : decode cX7_in 7 = .ok (.if_icmp .gt 7, 3) := by decide +kernel
theorem dX7_in_10 : decode cX7_in 10 = .ok (.iconst 1, 1) := by decide +kernel
theorem dX7_in_11 : decode cX7_in 11 = .ok (.goto 4, 3) := by decide +kernel
theorem dX7_in_14 : decode cX7_in 14 = .ok (.iconst 0, 1) := by decide +kernel
theorem dX7_in_15 : decode cX7_in 15 = .ok (.ireturn, 1) := by decide +kernel
theorem dX7_far_0 : decode cX7_far 0 = .ok (.iload_n 0, 1) := by decide +kernel
theorem dX7_far_1 : decode cX7_far 1 = .ok (.iload_n 1, 1) := by decide +kernel
theorem dX7_far_2 : decode cX7_far 2 = .ok (.if_icmp .ge 9, 3) := by decide +kernel
theorem dX7_far_5 : decode cX7_far 5 = .ok (.iload_n 1, 1) := by decide +kernel
theorem dX7_far_6 : decode cX7_far 6 = .ok (.iload_n 0, 1) := by decide +kernel
theorem dX7_far_7 : decode cX7_far 7 = .ok (.isub, 1) := by decide +kernel
theorem dX7_far_8 : decode cX7_far 8 = .ok (.goto 6, 3) := by decide +kernel
theorem dX7_far_11 : decode cX7_far 11 = .ok (.iload_n 0, 1) := by decide +kernel
theorem dX7_far_12 : decode cX7_far 12 = .ok (.iload_n 1, 1) := by decide +kernel
theorem dX7_far_13 : decode cX7_far 13 = .ok (.isub, 1) := by decide +kernel
theorem dX7_far_14 : decode cX7_far 14 = .ok (.ireturn, 1) := by decide +kernel
theorem dX7_isStep_0 : decode cX7_isStep 0 = .ok (.iload_n 0, 1) := by decide +kernel
theorem dX7_isStep_1 : decode cX7_isStep 1 = .ok (.iconst 0, 1) := by decide +kernel
theorem dX7_isStep_2 : decode cX7_isStep 2 = .ok (.bipush 99, 2) := by decide +kernel
theorem dX7_isStep_4 : decode cX7_isStep 4 = .ok (.invokestatic 44, 3) := by decide +kernel
theorem dX7_isStep_7 : decode cX7_isStep 7 = .ok (.ireturn, 1) := by decide +kernel
theorem dX7_ofL_0 : decode cX7_ofL 0 = .ok (.aload_n 0, 1) := by decide +kernel
theorem dX7_ofL_1 : decode cX7_ofL 1 = .ok (.getfield 7, 3) := by decide +kernel
theorem dX7_ofL_4 : decode cX7_ofL 4 = .ok (.bipush 10, 2) := by decide +kernel
theorem dX7_ofL_6 : decode cX7_ofL 6 = .ok (.bipush 13, 2) := by decide +kernel
theorem dX7_ofL_8 : decode cX7_ofL 8 = .ok (.iload_n 1, 1) := by decide +kernel
theorem dX7_ofL_9 : decode cX7_ofL 9 = .ok (.imul, 1) := by decide +kernel
theorem dX7_ofL_10 : decode cX7_ofL 10 = .ok (.iadd, 1) := by decide +kernel
theorem dX7_ofL_11 : decode cX7_ofL 11 = .ok (.iload_n 2, 1) := by decide +kernel
theorem dX7_ofL_12 : decode cX7_ofL 12 = .ok (.iadd, 1) := by decide +kernel
theorem dX7_ofL_13 : decode cX7_ofL 13 = .ok (.iaload, 1) := by decide +kernel
theorem dX7_ofL_14 : decode cX7_ofL 14 = .ok (.ireturn, 1) := by decide +kernel
theorem dX7_layL_0 : decode cX7_layL 0 = .ok (.aload_n 0, 1) := by decide +kernel
theorem dX7_layL_1 : decode cX7_layL 1 = .ok (.getfield 7, 3) := by decide +kernel
theorem dX7_layL_4 : decode cX7_layL 4 = .ok (.bipush 10, 2) := by decide +kernel
theorem dX7_layL_6 : decode cX7_layL 6 = .ok (.bipush 13, 2) := by decide +kernel
theorem dX7_layL_8 : decode cX7_layL 8 = .ok (.iload_n 1, 1) := by decide +kernel
theorem dX7_layL_9 : decode cX7_layL 9 = .ok (.imul, 1) := by decide +kernel
theorem dX7_layL_10 : decode cX7_layL 10 = .ok (.iadd, 1) := by decide +kernel
theorem dX7_layL_11 : decode cX7_layL 11 = .ok (.iload_n 2, 1) := by decide +kernel
theorem dX7_layL_12 : decode cX7_layL 12 = .ok (.iadd, 1) := by decide +kernel
theorem dX7_layL_13 : decode cX7_layL 13 = .ok (.iload_n 3, 1) := by decide +kernel
theorem dX7_layL_14 : decode cX7_layL 14 = .ok (.iastore, 1) := by decide +kernel
theorem dX7_layL_15 : decode cX7_layL 15 = .ok (.return_, 1) := by decide +kernel
theorem dX7_moreL_0 : decode cX7_moreL 0 = .ok (.aload_n 0, 1) := by decide +kernel
theorem dX7_moreL_1 : decode cX7_moreL 1 = .ok (.getfield 7, 3) := by decide +kernel
theorem dX7_moreL_4 : decode cX7_moreL 4 = .ok (.bipush 10, 2) := by decide +kernel
theorem dX7_moreL_6 : decode cX7_moreL 6 = .ok (.bipush 13, 2) := by decide +kernel
theorem dX7_moreL_8 : decode cX7_moreL 8 = .ok (.iload_n 1, 1) := by decide +kernel
theorem dX7_moreL_9 : decode cX7_moreL 9 = .ok (.imul, 1) := by decide +kernel
theorem dX7_moreL_10 : decode cX7_moreL 10 = .ok (.iadd, 1) := by decide +kernel
theorem dX7_moreL_11 : decode cX7_moreL 11 = .ok (.iload_n 2, 1) := by decide +kernel
theorem dX7_moreL_12 : decode cX7_moreL 12 = .ok (.iadd, 1) := by decide +kernel
theorem dX7_moreL_13 : decode cX7_moreL 13 = .ok (.dup2, 1) := by decide +kernel
theorem dX7_moreL_14 : decode cX7_moreL 14 = .ok (.iaload, 1) := by decide +kernel
theorem dX7_moreL_15 : decode cX7_moreL 15 = .ok (.iload_n 3, 1) := by decide +kernel
theorem dX7_moreL_16 : decode cX7_moreL 16 = .ok (.iadd, 1) := by decide +kernel
theorem dX7_moreL_17 : decode cX7_moreL 17 = .ok (.iastore, 1) := by decide +kernel
theorem dX7_moreL_18 : decode cX7_moreL 18 = .ok (.return_, 1) := by decide +kernel
theorem dX7_ofW_0 : decode cX7_ofW 0 = .ok (.aload_n 0, 1) := by decide +kernel
theorem dX7_ofW_1 : decode cX7_ofW 1 = .ok (.getfield 7, 3) := by decide +kernel
theorem dX7_ofW_4 : decode cX7_ofW 4 = .ok (.sipush 242, 3) := by decide +kernel
theorem dX7_ofW_7 : decode cX7_ofW 7 = .ok (.bipush 22, 2) := by decide +kernel
theorem dX7_ofW_9 : decode cX7_ofW 9 = .ok (.iload_n 1, 1) := by decide +kernel
theorem dX7_ofW_10 : decode cX7_ofW 10 = .ok (.imul, 1) := by decide +kernel
theorem dX7_ofW_11 : decode cX7_ofW 11 = .ok (.iadd, 1) := by decide +kernel
theorem dX7_ofW_12 : decode cX7_ofW 12 = .ok (.iload_n 2, 1) := by decide +kernel
theorem dX7_ofW_13 : decode cX7_ofW 13 = .ok (.iadd, 1) := by decide +kernel
theorem dX7_ofW_14 : decode cX7_ofW 14 = .ok (.iaload, 1) := by decide +kernel
theorem dX7_ofW_15 : decode cX7_ofW 15 = .ok (.ireturn, 1) := by decide +kernel
theorem dX7_layW_0 : decode cX7_layW 0 = .ok (.aload_n 0, 1) := by decide +kernel
theorem dX7_layW_1 : decode cX7_layW 1 = .ok (.getfield 7, 3) := by decide +kernel
theorem dX7_layW_4 : decode cX7_layW 4 = .ok (.sipush 242, 3) := by decide +kernel
theorem dX7_layW_7 : decode cX7_layW 7 = .ok (.bipush 22, 2) := by decide +kernel
theorem dX7_layW_9 : decode cX7_layW 9 = .ok (.iload_n 1, 1) := by decide +kernel
theorem dX7_layW_10 : decode cX7_layW 10 = .ok (.imul, 1) := by decide +kernel
theorem dX7_layW_11 : decode cX7_layW 11 = .ok (.iadd, 1) := by decide +kernel
theorem dX7_layW_12 : decode cX7_layW 12 = .ok (.iload_n 2, 1) := by decide +kernel
theorem dX7_layW_13 : decode cX7_layW 13 = .ok (.iadd, 1) := by decide +kernel
theorem dX7_layW_14 : decode cX7_layW 14 = .ok (.iload_n 3, 1) := by decide +kernel
theorem dX7_layW_15 : decode cX7_layW 15 = .ok (.iastore, 1) := by decide +kernel
theorem dX7_layW_16 : decode cX7_layW 16 = .ok (.return_, 1) := by decide +kernel
theorem dX7_ofH_0 : decode cX7_ofH 0 = .ok (.aload_n 0, 1) := by decide +kernel
theorem dX7_ofH_1 : decode cX7_ofH 1 = .ok (.getfield 7, 3) := by decide +kernel
theorem dX7_ofH_4 : decode cX7_ofH 4 = .ok (.sipush 218, 3) := by decide +kernel
theorem dX7_ofH_7 : decode cX7_ofH 7 = .ok (.iconst 3, 1) := by decide +kernel
theorem dX7_ofH_8 : decode cX7_ofH 8 = .ok (.iload_n 1, 1) := by decide +kernel
theorem dX7_ofH_9 : decode cX7_ofH 9 = .ok (.imul, 1) := by decide +kernel
theorem dX7_ofH_10 : decode cX7_ofH 10 = .ok (.iadd, 1) := by decide +kernel
theorem dX7_ofH_11 : decode cX7_ofH 11 = .ok (.iload_n 2, 1) := by decide +kernel
theorem dX7_ofH_12 : decode cX7_ofH 12 = .ok (.iadd, 1) := by decide +kernel
theorem dX7_ofH_13 : decode cX7_ofH 13 = .ok (.iaload, 1) := by decide +kernel
theorem dX7_ofH_14 : decode cX7_ofH 14 = .ok (.ireturn, 1) := by decide +kernel
theorem dX7_isLamp_0 : decode cX7_isLamp 0 = .ok (.iload_n 1, 1) := by decide +kernel
theorem dX7_isLamp_1 : decode cX7_isLamp 1 = .ok (.iconst 0, 1) := by decide +kernel
theorem dX7_isLamp_2 : decode cX7_isLamp 2 = .ok (.aload_n 0, 1) := by decide +kernel
theorem dX7_isLamp_3 : decode cX7_isLamp 3 = .ok (.getfield 7, 3) := by decide +kernel
theorem dX7_isLamp_6 : decode cX7_isLamp 6 = .ok (.bipush 7, 2) := by decide +kernel
theorem dX7_isLamp_8 : decode cX7_isLamp 8 = .ok (.iaload, 1) := by decide +kernel
theorem dX7_isLamp_9 : decode cX7_isLamp 9 = .ok (.iconst 1, 1) := by decide +kernel
theorem dX7_isLamp_10 : decode cX7_isLamp 10 = .ok (.isub, 1) := by decide +kernel
theorem dX7_isLamp_11 : decode cX7_isLamp 11 = .ok (.invokestatic 44, 3) := by decide +kernel
theorem dX7_isLamp_14 : decode cX7_isLamp 14 = .ok (.ireturn, 1) := by decide +kernel
theorem dX7_isWalker_0 : decode cX7_isWalker 0 = .ok (.iload_n 1, 1) := by decide +kernel
theorem dX7_isWalker_1 : decode cX7_isWalker 1 = .ok (.iconst 0, 1) := by decide +kernel
theorem dX7_isWalker_2 : decode cX7_isWalker 2 = .ok (.aload_n 0, 1) := by decide +kernel
theorem dX7_isWalker_3 : decode cX7_isWalker 3 = .ok (.getfield 7, 3) := by decide +kernel
theorem dX7_isWalker_6 : decode cX7_isWalker 6 = .ok (.bipush 9, 2) := by decide +kernel
theorem dX7_isWalker_8 : decode cX7_isWalker 8 = .ok (.iaload, 1) := by decide +kernel
theorem dX7_isWalker_9 : decode cX7_isWalker 9 = .ok (.iconst 1, 1) := by decide +kernel
theorem dX7_isWalker_10 : decode cX7_isWalker 10 = .ok (.isub, 1) := by decide +kernel
theorem dX7_isWalker_11 : decode cX7_isWalker 11 = .ok (.invokestatic 44, 3) := by decide +kernel
theorem dX7_isWalker_14 : decode cX7_isWalker 14 = .ok (.ireturn, 1) := by decide +kernel
theorem dX7_isInStreet_0 : decode cX7_isInStreet 0 = .ok (.aload_n 0, 1) := by decide +kernel
theorem dX7_isInStreet_1 : decode cX7_isInStreet 1 = .ok (.iload_n 1, 1) := by decide +kernel
theorem dX7_isInStreet_2 : decode cX7_isInStreet 2 = .ok (.iconst 2, 1) := by decide +kernel
theorem dX7_isInStreet_3 : decode cX7_isInStreet 3 = .ok (.invokevirtual 48, 3) := by decide +kernel
theorem dX7_isInStreet_6 : decode cX7_isInStreet 6 = .ok (.ifCond .ne 7, 3) := by decide +kernel
theorem dX7_isInStreet_9 : decode cX7_isInStreet 9 = .ok (.iconst 1, 1) := by decide +kernel
theorem dX7_isInStreet_10 : decode cX7_isInStreet 10 = .ok (.goto 4, 3) := by decide +kernel
theorem dX7_isInStreet_13 : decode cX7_isInStreet 13 = .ok (.iconst 0, 1) := by decide +kernel
theorem dX7_isInStreet_14 : decode cX7_isInStreet 14 = .ok (.ireturn, 1) := by decide +kernel
theorem dX7_keep_0 : decode cX7_keep 0 = .ok (.aload_n 0, 1) := by decide +kernel
theorem dX7_keep_1 : decode cX7_keep 1 = .ok (.getfield 52, 3) := by decide +kernel
theorem dX7_keep_4 : decode cX7_keep 4 = .ok (.bipush 6, 2) := by decide +kernel
theorem dX7_keep_6 : decode cX7_keep 6 = .ok (.if_icmp .ne 26, 3) := by decide +kernel
theorem dX7_keep_9 : decode cX7_keep 9 = .ok (.aload_n 0, 1) := by decide +kernel
theorem dX7_keep_10 : decode cX7_keep 10 = .ok (.aload_n 0, 1) := by decide +kernel
theorem dX7_keep_11 : decode cX7_keep 11 = .ok (.getfield 56, 3) := by decide +kernel
theorem dX7_keep_14 : decode cX7_keep 14 = .ok (.iconst 1, 1) := by decide +kernel
theorem dX7_keep_15 : decode cX7_keep 15 = .ok (.iadd, 1) := by decide +kernel
theorem dX7_keep_16 : decode cX7_keep 16 = .ok (.bipush 6, 2) := by decide +kernel
theorem dX7_keep_18 : decode cX7_keep 18 = .ok (.irem, 1) := by decide +kernel
theorem dX7_keep_19 : decode cX7_keep 19 = .ok (.putfield 56, 3) := by decide +kernel
theorem dX7_keep_22 : decode cX7_keep 22 = .ok (.aload_n 0, 1) := by decide +kernel
theorem dX7_keep_23 : decode cX7_keep 23 = .ok (.dup, 1) := by decide +kernel
theorem dX7_keep_24 : decode cX7_keep 24 = .ok (.getfield 52, 3) := by decide +kernel
theorem dX7_keep_27 : decode cX7_keep 27 = .ok (.iconst 1, 1) := by decide +kernel
theorem dX7_keep_28 : decode cX7_keep 28 = .ok (.isub, 1) := by decide +kernel
theorem dX7_keep_29 : decode cX7_keep 29 = .ok (.putfield 52, 3) := by decide +kernel
theorem dX7_keep_32 : decode cX7_keep 32 = .ok (.aload_n 0, 1) := by decide +kernel
theorem dX7_keep_33 : decode cX7_keep 33 = .ok (.getfield 56, 3) := by decide +kernel
theorem dX7_keep_36 : decode cX7_keep 36 = .ok (.aload_n 0, 1) := by decide +kernel
theorem dX7_keep_37 : decode cX7_keep 37 = .ok (.getfield 52, 3) := by decide +kernel
theorem dX7_keep_40 : decode cX7_keep 40 = .ok (.iadd, 1) := by decide +kernel
theorem dX7_keep_41 : decode cX7_keep 41 = .ok (.bipush 6, 2) := by decide +kernel
theorem dX7_keep_43 : decode cX7_keep 43 = .ok (.irem, 1) := by decide +kernel
theorem dX7_keep_44 : decode cX7_keep 44 = .ok (.istore_n 1, 1) := by decide +kernel
theorem dX7_keep_45 : decode cX7_keep 45 = .ok (.iconst 0, 1) := by decide +kernel
theorem dX7_keep_46 : decode cX7_keep 46 = .ok (.istore_n 2, 1) := by decide +kernel
theorem dX7_keep_47 : decode cX7_keep 47 = .ok (.iload_n 2, 1) := by decide +kernel
theorem dX7_keep_48 : decode cX7_keep 48 = .ok (.sipush 440, 3) := by decide +kernel
theorem dX7_keep_51 : decode cX7_keep 51 = .ok (.if_icmp .ge 27, 3) := by decide +kernel
theorem dX7_keep_54 : decode cX7_keep 54 = .ok (.aload_n 0, 1) := by decide +kernel
theorem dX7_keep_55 : decode cX7_keep 55 = .ok (.getfield 13, 3) := by decide +kernel
theorem dX7_keep_58 : decode cX7_keep 58 = .ok (.sipush 440, 3) := by decide +kernel
theorem dX7_keep_61 : decode cX7_keep 61 = .ok (.iload_n 1, 1) := by decide +kernel
theorem dX7_keep_62 : decode cX7_keep 62 = .ok (.imul, 1) := by decide +kernel
theorem dX7_keep_63 : decode cX7_keep 63 = .ok (.iload_n 2, 1) := by decide +kernel
theorem dX7_keep_64 : decode cX7_keep 64 = .ok (.iadd, 1) := by decide +kernel
theorem dX7_keep_65 : decode cX7_keep 65 = .ok (.aload_n 0, 1) := by decide +kernel
theorem dX7_keep_66 : decode cX7_keep 66 = .ok (.getfield 7, 3) := by decide +kernel
theorem dX7_keep_69 : decode cX7_keep 69 = .ok (.iload_n 2, 1) := by decide +kernel
theorem dX7_keep_70 : decode cX7_keep 70 = .ok (.iaload, 1) := by decide +kernel
theorem dX7_keep_71 : decode cX7_keep 71 = .ok (.iastore, 1) := by decide +kernel
theorem dX7_keep_72 : decode cX7_keep 72 = .ok (.iinc 2 1, 3) := by decide +kernel
theorem dX7_keep_75 : decode cX7_keep 75 = .ok (.goto (-28), 3) := by decide +kernel
theorem dX7_keep_78 : decode cX7_keep 78 = .ok (.aload_n 0, 1) := by decide +kernel
theorem dX7_keep_79 : decode cX7_keep 79 = .ok (.dup, 1) := by decide +kernel
theorem dX7_keep_80 : decode cX7_keep 80 = .ok (.getfield 52, 3) := by decide +kernel
theorem dX7_keep_83 : decode cX7_keep 83 = .ok (.iconst 1, 1) := by decide +kernel
theorem dX7_keep_84 : decode cX7_keep 84 = .ok (.iadd, 1) := by decide +kernel
theorem dX7_keep_85 : decode cX7_keep 85 = .ok (.putfield 52, 3) := by decide +kernel
theorem dX7_keep_88 : decode cX7_keep 88 = .ok (.return_, 1) := by decide +kernel
theorem dX7_keepIf_0 : decode cX7_keepIf 0 = .ok (.iload_n 1, 1) := by decide +kernel
theorem dX7_keepIf_1 : decode cX7_keepIf 1 = .ok (.ifCond .eq 7, 3) := by decide +kernel
theorem dX7_keepIf_4 : decode cX7_keepIf 4 = .ok (.aload_n 0, 1) := by decide +kernel
theorem dX7_keepIf_5 : decode cX7_keepIf 5 = .ok (.invokevirtual 59, 3) := by decide +kernel
theorem dX7_keepIf_8 : decode cX7_keepIf 8 = .ok (.return_, 1) := by decide +kernel
theorem dX7_layAside_0 : decode cX7_layAside 0 = .ok (.iconst 0, 1) := by decide +kernel
theorem dX7_layAside_1 : decode cX7_layAside 1 = .ok (.istore_n 1, 1) := by decide +kernel
theorem dX7_layAside_2 : decode cX7_layAside 2 = .ok (.iload_n 1, 1) := by decide +kernel
theorem dX7_layAside_3 : decode cX7_layAside 3 = .ok (.sipush 440, 3) := by decide +kernel
theorem dX7_layAside_6 : decode cX7_layAside 6 = .ok (.if_icmp .ge 21, 3) := by decide +kernel
theorem dX7_layAside_9 : decode cX7_layAside 9 = .ok (.aload_n 0, 1) := by decide +kernel
theorem dX7_layAside_10 : decode cX7_layAside 10 = .ok (.getfield 23, 3) := by decide +kernel
theorem dX7_layAside_13 : decode cX7_layAside 13 = .ok (.iload_n 1, 1) := by decide +kernel
theorem dX7_layAside_14 : decode cX7_layAside 14 = .ok (.aload_n 0, 1) := by decide +kernel
theorem dX7_layAside_15 : decode cX7_layAside 15 = .ok (.getfield 7, 3) := by decide +kernel
theorem dX7_layAside_18 : decode cX7_layAside 18 = .ok (.iload_n 1, 1) := by decide +kernel
theorem dX7_layAside_19 : decode cX7_layAside 19 = .ok (.iaload, 1) := by decide +kernel
theorem dX7_layAside_20 : decode cX7_layAside 20 = .ok (.iastore, 1) := by decide +kernel
theorem dX7_layAside_21 : decode cX7_layAside 21 = .ok (.iinc 1 1, 3) := by decide +kernel
theorem dX7_layAside_24 : decode cX7_layAside 24 = .ok (.goto (-22), 3) := by decide +kernel
theorem dX7_layAside_27 : decode cX7_layAside 27 = .ok (.return_, 1) := by decide +kernel
theorem dX7_layBack_0 : decode cX7_layBack 0 = .ok (.iconst 0, 1) := by decide +kernel
theorem dX7_layBack_1 : decode cX7_layBack 1 = .ok (.istore_n 1, 1) := by decide +kernel
theorem dX7_layBack_2 : decode cX7_layBack 2 = .ok (.iload_n 1, 1) := by decide +kernel
theorem dX7_layBack_3 : decode cX7_layBack 3 = .ok (.sipush 440, 3) := by decide +kernel
theorem dX7_layBack_6 : decode cX7_layBack 6 = .ok (.if_icmp .ge 21, 3) := by decide +kernel
theorem dX7_layBack_9 : decode cX7_layBack 9 = .ok (.aload_n 0, 1) := by decide +kernel
theorem dX7_layBack_10 : decode cX7_layBack 10 = .ok (.getfield 7, 3) := by decide +kernel
theorem dX7_layBack_13 : decode cX7_layBack 13 = .ok (.iload_n 1, 1) := by decide +kernel
theorem dX7_layBack_14 : decode cX7_layBack 14 = .ok (.aload_n 0, 1) := by decide +kernel
theorem dX7_layBack_15 : decode cX7_layBack 15 = .ok (.getfield 23, 3) := by decide +kernel
theorem dX7_layBack_18 : decode cX7_layBack 18 = .ok (.iload_n 1, 1) := by decide +kernel
theorem dX7_layBack_19 : decode cX7_layBack 19 = .ok (.iaload, 1) := by decide +kernel
theorem dX7_layBack_20 : decode cX7_layBack 20 = .ok (.iastore, 1) := by decide +kernel
theorem dX7_layBack_21 : decode cX7_layBack 21 = .ok (.iinc 1 1, 3) := by decide +kernel
theorem dX7_layBack_24 : decode cX7_layBack 24 = .ok (.goto (-22), 3) := by decide +kernel
theorem dX7_layBack_27 : decode cX7_layBack 27 = .ok (.return_, 1) := by decide +kernel
theorem dX7_lights_0 : decode cX7_lights 0 = .ok (.aload_n 0, 1) := by decide +kernel
theorem dX7_lights_1 : decode cX7_lights 1 = .ok (.iload_n 1, 1) := by decide +kernel
theorem dX7_lights_2 : decode cX7_lights 2 = .ok (.iconst 0, 1) := by decide +kernel
theorem dX7_lights_3 : decode cX7_lights 3 = .ok (.invokevirtual 62, 3) := by decide +kernel
theorem dX7_lights_6 : decode cX7_lights 6 = .ok (.iload_n 2, 1) := by decide +kernel
theorem dX7_lights_7 : decode cX7_lights 7 = .ok (.invokestatic 65, 3) := by decide +kernel
theorem dX7_lights_10 : decode cX7_lights 10 = .ok (.istore_n 3, 1) := by decide +kernel
theorem dX7_lights_11 : decode cX7_lights 11 = .ok (.aload_n 0, 1) := by decide +kernel
theorem dX7_lights_12 : decode cX7_lights 12 = .ok (.iload_n 1, 1) := by decide +kernel
theorem dX7_lights_13 : decode cX7_lights 13 = .ok (.iconst 2, 1) := by decide +kernel
theorem dX7_lights_14 : decode cX7_lights 14 = .ok (.invokevirtual 62, 3) := by decide +kernel
theorem dX7_lights_17 : decode cX7_lights 17 = .ok (.istore 4, 2) := by decide +kernel
theorem dX7_lights_19 : decode cX7_lights 19 = .ok (.iload 4, 2) := by decide +kernel
theorem dX7_lights_21 : decode cX7_lights 21 = .ok (.iconst 2, 1) := by decide +kernel
theorem dX7_lights_22 : decode cX7_lights 22 = .ok (.if_icmp .ne 13, 3) := by decide +kernel
theorem dX7_lights_25 : decode cX7_lights 25 = .ok (.iload_n 3, 1) := by decide +kernel
theorem dX7_lights_26 : decode cX7_lights 26 = .ok (.aload_n 0, 1) := by decide +kernel
theorem dX7_lights_27 : decode cX7_lights 27 = .ok (.iload_n 1, 1) := by decide +kernel
theorem dX7_lights_28 : decode cX7_lights 28 = .ok (.iconst 1, 1) := by decide +kernel
theorem dX7_lights_29 : decode cX7_lights 29 = .ok (.invokevirtual 62, 3) := by decide +kernel
theorem dX7_lights_32 : decode cX7_lights 32 = .ok (.if_icmp .le 21, 3) := by decide +kernel
theorem dX7_lights_35 : decode cX7_lights 35 = .ok (.iload 4, 2) := by decide +kernel
theorem dX7_lights_37 : decode cX7_lights 37 = .ok (.iconst 1, 1) := by decide +kernel
theorem dX7_lights_38 : decode cX7_lights 38 = .ok (.if_icmp .ne 19, 3) := by decide +kernel
theorem dX7_lights_41 : decode cX7_lights 41 = .ok (.iload_n 3, 1) := by decide +kernel
theorem dX7_lights_42 : decode cX7_lights 42 = .ok (.aload_n 0, 1) := by decide +kernel
theorem dX7_lights_43 : decode cX7_lights 43 = .ok (.iload_n 1, 1) := by decide +kernel
theorem dX7_lights_44 : decode cX7_lights 44 = .ok (.iconst 1, 1) := by decide +kernel
theorem dX7_lights_45 : decode cX7_lights 45 = .ok (.invokevirtual 62, 3) := by decide +kernel
theorem dX7_lights_48 : decode cX7_lights 48 = .ok (.iconst 2, 1) := by decide +kernel
theorem dX7_lights_49 : decode cX7_lights 49 = .ok (.idiv, 1) := by decide +kernel
theorem dX7_lights_50 : decode cX7_lights 50 = .ok (.if_icmp .gt 7, 3) := by decide +kernel
theorem dX7_lights_53 : decode cX7_lights 53 = .ok (.iconst 1, 1) := by decide +kernel
theorem dX7_lights_54 : decode cX7_lights 54 = .ok (.goto 4, 3) := by decide +kernel
theorem dX7_lights_57 : decode cX7_lights 57 = .ok (.iconst 0, 1) := by decide +kernel
theorem dX7_lights_58 : decode cX7_lights 58 = .ok (.ireturn, 1) := by decide +kernel
theorem dX7_lightOn_0 : decode cX7_lightOn 0 = .ok (.iconst 0, 1) := by decide +kernel
theorem dX7_lightOn_1 : decode cX7_lightOn 1 = .ok (.istore_n 2, 1) := by decide +kernel
theorem dX7_lightOn_2 : decode cX7_lightOn 2 = .ok (.iconst 0, 1) := by decide +kernel
theorem dX7_lightOn_3 : decode cX7_lightOn 3 = .ok (.istore_n 3, 1) := by decide +kernel
theorem dX7_lightOn_4 : decode cX7_lightOn 4 = .ok (.iload_n 3, 1) := by decide +kernel
theorem dX7_lightOn_5 : decode cX7_lightOn 5 = .ok (.aload_n 0, 1) := by decide +kernel
theorem dX7_lightOn_6 : decode cX7_lightOn 6 = .ok (.getfield 7, 3) := by decide +kernel
theorem dX7_lightOn_9 : decode cX7_lightOn 9 = .ok (.bipush 7, 2) := by decide +kernel
theorem dX7_lightOn_11 : decode cX7_lightOn 11 = .ok (.iaload, 1) := by decide +kernel
theorem dX7_lightOn_12 : decode cX7_lightOn 12 = .ok (.if_icmp .ge 28, 3) := by decide +kernel
theorem dX7_lightOn_15 : decode cX7_lightOn 15 = .ok (.iload_n 2, 1) := by decide +kernel
theorem dX7_lightOn_16 : decode cX7_lightOn 16 = .ok (.aload_n 0, 1) := by decide +kernel
theorem dX7_lightOn_17 : decode cX7_lightOn 17 = .ok (.iload_n 3, 1) := by decide +kernel
theorem dX7_lightOn_18 : decode cX7_lightOn 18 = .ok (.iload_n 1, 1) := by decide +kernel
theorem dX7_lightOn_19 : decode cX7_lightOn 19 = .ok (.invokevirtual 68, 3) := by decide +kernel
theorem dX7_lightOn_22 : decode cX7_lightOn 22 = .ok (.ifCond .eq 9, 3) := by decide +kernel
theorem dX7_lightOn_25 : decode cX7_lightOn 25 = .ok (.iconst 1, 1) := by decide +kernel
theorem dX7_lightOn_26 : decode cX7_lightOn 26 = .ok (.iload_n 3, 1) := by decide +kernel
theorem dX7_lightOn_27 : decode cX7_lightOn 27 = .ok (.ishl, 1) := by decide +kernel
theorem dX7_lightOn_28 : decode cX7_lightOn 28 = .ok (.goto 4, 3) := by decide +kernel
theorem dX7_lightOn_31 : decode cX7_lightOn 31 = .ok (.iconst 0, 1) := by decide +kernel
theorem dX7_lightOn_32 : decode cX7_lightOn 32 = .ok (.ior, 1) := by decide +kernel
theorem dX7_lightOn_33 : decode cX7_lightOn 33 = .ok (.istore_n 2, 1) := by decide +kernel
theorem dX7_lightOn_34 : decode cX7_lightOn 34 = .ok (.iinc 3 1, 3) := by decide +kernel
theorem dX7_lightOn_37 : decode cX7_lightOn 37 = .ok (.goto (-33), 3) := by decide +kernel
theorem dX7_lightOn_40 : decode cX7_lightOn 40 = .ok (.iload_n 2, 1) := by decide +kernel
theorem dX7_lightOn_41 : decode cX7_lightOn 41 = .ok (.ireturn, 1) := by decide +kernel
end
section
theorem dX7_isDisturbed_0 : decode cX7_isDisturbed 0 = .ok (.iconst 0, 1) := by decide +kernel
theorem dX7_isDisturbed_1 : decode cX7_isDisturbed 1 = .ok (.istore_n 2, 1) := by decide +kernel
theorem dX7_isDisturbed_2 : decode cX7_isDisturbed 2 = .ok (.iconst 0, 1) := by decide +kernel
theorem dX7_isDisturbed_3 : decode cX7_isDisturbed 3 = .ok (.istore_n 3, 1) := by decide +kernel
theorem dX7_isDisturbed_4 : decode cX7_isDisturbed 4 = .ok (.iload_n 3, 1) := by decide +kernel
theorem dX7_isDisturbed_5 : decode cX7_isDisturbed 5 = .ok (.aload_n 0, 1) := by decide +kernel
theorem dX7_isDisturbed_6 : decode cX7_isDisturbed 6 = .ok (.getfield 7, 3) := by decide +kernel
theorem dX7_isDisturbed_9 : decode cX7_isDisturbed 9 = .ok (.bipush 7, 2) := by decide +kernel
theorem dX7_isDisturbed_11 : decode cX7_isDisturbed 11 = .ok (.iaload, 1) := by decide +kernel
theorem dX7_isDisturbed_12 : decode cX7_isDisturbed 12 = .ok (.if_icmp .ge 53, 3) := by decide +kernel
theorem dX7_isDisturbed_15 : decode cX7_isDisturbed 15 = .ok (.iload_n 2, 1) := by decide +kernel
theorem dX7_isDisturbed_16 : decode cX7_isDisturbed 16 = .ok (.aload_n 0, 1) := by decide +kernel
theorem dX7_isDisturbed_17 : decode cX7_isDisturbed 17 = .ok (.iload_n 3, 1) := by decide +kernel
theorem dX7_isDisturbed_18 : decode cX7_isDisturbed 18 = .ok (.iconst 2, 1) := by decide +kernel
theorem dX7_isDisturbed_19 : decode cX7_isDisturbed 19 = .ok (.invokevirtual 62, 3) := by decide +kernel
theorem dX7_isDisturbed_22 : decode cX7_isDisturbed 22 = .ok (.iconst 2, 1) := by decide +kernel
theorem dX7_isDisturbed_23 : decode cX7_isDisturbed 23 = .ok (.if_icmp .ne 33, 3) := by decide +kernel
theorem dX7_isDisturbed_26 : decode cX7_isDisturbed 26 = .ok (.aload_n 0, 1) := by decide +kernel
theorem dX7_isDisturbed_27 : decode cX7_isDisturbed 27 = .ok (.iload_n 3, 1) := by decide +kernel
theorem dX7_isDisturbed_28 : decode cX7_isDisturbed 28 = .ok (.iconst 0, 1) := by decide +kernel
theorem dX7_isDisturbed_29 : decode cX7_isDisturbed 29 = .ok (.invokevirtual 62, 3) := by decide +kernel
theorem dX7_isDisturbed_32 : decode cX7_isDisturbed 32 = .ok (.aload_n 0, 1) := by decide +kernel
theorem dX7_isDisturbed_33 : decode cX7_isDisturbed 33 = .ok (.iload_n 1, 1) := by decide +kernel
theorem dX7_isDisturbed_34 : decode cX7_isDisturbed 34 = .ok (.iconst 0, 1) := by decide +kernel
theorem dX7_isDisturbed_35 : decode cX7_isDisturbed 35 = .ok (.invokevirtual 72, 3) := by decide +kernel
theorem dX7_isDisturbed_38 : decode cX7_isDisturbed 38 = .ok (.invokestatic 65, 3) := by decide +kernel
theorem dX7_isDisturbed_41 : decode cX7_isDisturbed 41 = .ok (.aload_n 0, 1) := by decide +kernel
theorem dX7_isDisturbed_42 : decode cX7_isDisturbed 42 = .ok (.iload_n 3, 1) := by decide +kernel
theorem dX7_isDisturbed_43 : decode cX7_isDisturbed 43 = .ok (.iconst 1, 1) := by decide +kernel
theorem dX7_isDisturbed_44 : decode cX7_isDisturbed 44 = .ok (.invokevirtual 62, 3) := by decide +kernel
theorem dX7_isDisturbed_47 : decode cX7_isDisturbed 47 = .ok (.iconst 3, 1) := by decide +kernel
theorem dX7_isDisturbed_48 : decode cX7_isDisturbed 48 = .ok (.idiv, 1) := by decide +kernel
theorem dX7_isDisturbed_49 : decode cX7_isDisturbed 49 = .ok (.if_icmp .gt 7, 3) := by decide +kernel
theorem dX7_isDisturbed_52 : decode cX7_isDisturbed 52 = .ok (.iconst 1, 1) := by decide +kernel
theorem dX7_isDisturbed_53 : decode cX7_isDisturbed 53 = .ok (.goto 4, 3) := by decide +kernel
theorem dX7_isDisturbed_56 : decode cX7_isDisturbed 56 = .ok (.iconst 0, 1) := by decide +kernel
theorem dX7_isDisturbed_57 : decode cX7_isDisturbed 57 = .ok (.ior, 1) := by decide +kernel
theorem dX7_isDisturbed_58 : decode cX7_isDisturbed 58 = .ok (.istore_n 2, 1) := by decide +kernel
theorem dX7_isDisturbed_59 : decode cX7_isDisturbed 59 = .ok (.iinc 3 1, 3) := by decide +kernel
theorem dX7_isDisturbed_62 : decode cX7_isDisturbed 62 = .ok (.goto (-58), 3) := by decide +kernel
theorem dX7_isDisturbed_65 : decode cX7_isDisturbed 65 = .ok (.iload_n 2, 1) := by decide +kernel
theorem dX7_isDisturbed_66 : decode cX7_isDisturbed 66 = .ok (.ireturn, 1) := by decide +kernel
theorem dX7_nearestTo_0 : decode cX7_nearestTo 0 = .ok (.bipush (-6), 2) := by decide +kernel
theorem dX7_nearestTo_2 : decode cX7_nearestTo 2 = .ok (.istore_n 2, 1) := by decide +kernel
theorem dX7_nearestTo_3 : decode cX7_nearestTo 3 = .ok (.iconst 0, 1) := by decide +kernel
theorem dX7_nearestTo_4 : decode cX7_nearestTo 4 = .ok (.istore_n 3, 1) := by decide +kernel
theorem dX7_nearestTo_5 : decode cX7_nearestTo 5 = .ok (.iload_n 3, 1) := by decide +kernel
theorem dX7_nearestTo_6 : decode cX7_nearestTo 6 = .ok (.aload_n 0, 1) := by decide +kernel
theorem dX7_nearestTo_7 : decode cX7_nearestTo 7 = .ok (.getfield 7, 3) := by decide +kernel
theorem dX7_nearestTo_10 : decode cX7_nearestTo 10 = .ok (.bipush 7, 2) := by decide +kernel
theorem dX7_nearestTo_12 : decode cX7_nearestTo 12 = .ok (.iaload, 1) := by decide +kernel
theorem dX7_nearestTo_13 : decode cX7_nearestTo 13 = .ok (.if_icmp .ge 42, 3) := by decide +kernel
theorem dX7_nearestTo_16 : decode cX7_nearestTo 16 = .ok (.iload_n 2, 1) := by decide +kernel
theorem dX7_nearestTo_17 : decode cX7_nearestTo 17 = .ok (.ifCond .lt 26, 3) := by decide +kernel
theorem dX7_nearestTo_20 : decode cX7_nearestTo 20 = .ok (.aload_n 0, 1) := by decide +kernel
theorem dX7_nearestTo_21 : decode cX7_nearestTo 21 = .ok (.iload_n 3, 1) := by decide +kernel
theorem dX7_nearestTo_22 : decode cX7_nearestTo 22 = .ok (.iconst 0, 1) := by decide +kernel
theorem dX7_nearestTo_23 : decode cX7_nearestTo 23 = .ok (.invokevirtual 62, 3) := by decide +kernel
theorem dX7_nearestTo_26 : decode cX7_nearestTo 26 = .ok (.iload_n 1, 1) := by decide +kernel
theorem dX7_nearestTo_27 : decode cX7_nearestTo 27 = .ok (.invokestatic 65, 3) := by decide +kernel
theorem dX7_nearestTo_30 : decode cX7_nearestTo 30 = .ok (.aload_n 0, 1) := by decide +kernel
theorem dX7_nearestTo_31 : decode cX7_nearestTo 31 = .ok (.iload_n 2, 1) := by decide +kernel
theorem dX7_nearestTo_32 : decode cX7_nearestTo 32 = .ok (.iconst 0, 1) := by decide +kernel
theorem dX7_nearestTo_33 : decode cX7_nearestTo 33 = .ok (.invokevirtual 62, 3) := by decide +kernel
theorem dX7_nearestTo_36 : decode cX7_nearestTo 36 = .ok (.iload_n 1, 1) := by decide +kernel
theorem dX7_nearestTo_37 : decode cX7_nearestTo 37 = .ok (.invokestatic 65, 3) := by decide +kernel
theorem dX7_nearestTo_40 : decode cX7_nearestTo 40 = .ok (.if_icmp .ge 7, 3) := by decide +kernel
theorem dX7_nearestTo_43 : decode cX7_nearestTo 43 = .ok (.iload_n 3, 1) := by decide +kernel
theorem dX7_nearestTo_44 : decode cX7_nearestTo 44 = .ok (.goto 4, 3) := by decide +kernel
theorem dX7_nearestTo_47 : decode cX7_nearestTo 47 = .ok (.iload_n 2, 1) := by decide +kernel
theorem dX7_nearestTo_48 : decode cX7_nearestTo 48 = .ok (.istore_n 2, 1) := by decide +kernel
theorem dX7_nearestTo_49 : decode cX7_nearestTo 49 = .ok (.iinc 3 1, 3) := by decide +kernel
theorem dX7_nearestTo_52 : decode cX7_nearestTo 52 = .ok (.goto (-47), 3) := by decide +kernel
theorem dX7_nearestTo_55 : decode cX7_nearestTo 55 = .ok (.iload_n 2, 1) := by decide +kernel
theorem dX7_nearestTo_56 : decode cX7_nearestTo 56 = .ok (.ireturn, 1) := by decide +kernel
theorem dX7_shine_0 : decode cX7_shine 0 = .ok (.aload_n 0, 1) := by decide +kernel
theorem dX7_shine_1 : decode cX7_shine 1 = .ok (.iload_n 1, 1) := by decide +kernel
theorem dX7_shine_2 : decode cX7_shine 2 = .ok (.iconst 2, 1) := by decide +kernel
theorem dX7_shine_3 : decode cX7_shine 3 = .ok (.iconst 2, 1) := by decide +kernel
theorem dX7_shine_4 : decode cX7_shine 4 = .ok (.invokevirtual 75, 3) := by decide +kernel
theorem dX7_shine_7 : decode cX7_shine 7 = .ok (.aload_n 0, 1) := by decide +kernel
theorem dX7_shine_8 : decode cX7_shine 8 = .ok (.iload_n 1, 1) := by decide +kernel
theorem dX7_shine_9 : decode cX7_shine 9 = .ok (.iconst 4, 1) := by decide +kernel
theorem dX7_shine_10 : decode cX7_shine 10 = .ok (.aload_n 0, 1) := by decide +kernel
theorem dX7_shine_11 : decode cX7_shine 11 = .ok (.getfield 7, 3) := by decide +kernel
theorem dX7_shine_14 : decode cX7_shine 14 = .ok (.iconst 2, 1) := by decide +kernel
theorem dX7_shine_15 : decode cX7_shine 15 = .ok (.iaload, 1) := by decide +kernel
theorem dX7_shine_16 : decode cX7_shine 16 = .ok (.invokevirtual 75, 3) := by decide +kernel
theorem dX7_shine_19 : decode cX7_shine 19 = .ok (.aload_n 0, 1) := by decide +kernel
theorem dX7_shine_20 : decode cX7_shine 20 = .ok (.iload_n 1, 1) := by decide +kernel
theorem dX7_shine_21 : decode cX7_shine 21 = .ok (.bipush 12, 2) := by decide +kernel
theorem dX7_shine_23 : decode cX7_shine 23 = .ok (.iconst 1, 1) := by decide +kernel
theorem dX7_shine_24 : decode cX7_shine 24 = .ok (.invokevirtual 75, 3) := by decide +kernel
theorem dX7_shine_27 : decode cX7_shine 27 = .ok (.return_, 1) := by decide +kernel
theorem dX7_hears_0 : decode cX7_hears 0 = .ok (.iload_n 1, 1) := by decide +kernel
theorem dX7_hears_1 : decode cX7_hears 1 = .ok (.iload_n 2, 1) := by decide +kernel
theorem dX7_hears_2 : decode cX7_hears 2 = .ok (.if_icmp .eq 41, 3) := by decide +kernel
theorem dX7_hears_5 : decode cX7_hears 5 = .ok (.aload_n 0, 1) := by decide +kernel
theorem dX7_hears_6 : decode cX7_hears 6 = .ok (.iload_n 1, 1) := by decide +kernel
theorem dX7_hears_7 : decode cX7_hears 7 = .ok (.iconst 3, 1) := by decide +kernel
theorem dX7_hears_8 : decode cX7_hears 8 = .ok (.invokevirtual 62, 3) := by decide +kernel
theorem dX7_hears_11 : decode cX7_hears 11 = .ok (.iconst 2, 1) := by decide +kernel
theorem dX7_hears_12 : decode cX7_hears 12 = .ok (.if_icmp .eq 31, 3) := by decide +kernel
theorem dX7_hears_15 : decode cX7_hears 15 = .ok (.aload_n 0, 1) := by decide +kernel
theorem dX7_hears_16 : decode cX7_hears 16 = .ok (.iload_n 1, 1) := by decide +kernel
theorem dX7_hears_17 : decode cX7_hears 17 = .ok (.iconst 0, 1) := by decide +kernel
theorem dX7_hears_18 : decode cX7_hears 18 = .ok (.invokevirtual 62, 3) := by decide +kernel
theorem dX7_hears_21 : decode cX7_hears 21 = .ok (.aload_n 0, 1) := by decide +kernel
theorem dX7_hears_22 : decode cX7_hears 22 = .ok (.iload_n 2, 1) := by decide +kernel
theorem dX7_hears_23 : decode cX7_hears 23 = .ok (.iconst 0, 1) := by decide +kernel
theorem dX7_hears_24 : decode cX7_hears 24 = .ok (.invokevirtual 62, 3) := by decide +kernel
theorem dX7_hears_27 : decode cX7_hears 27 = .ok (.invokestatic 65, 3) := by decide +kernel
theorem dX7_hears_30 : decode cX7_hears 30 = .ok (.aload_n 0, 1) := by decide +kernel
theorem dX7_hears_31 : decode cX7_hears 31 = .ok (.getfield 7, 3) := by decide +kernel
theorem dX7_hears_34 : decode cX7_hears 34 = .ok (.iconst 1, 1) := by decide +kernel
theorem dX7_hears_35 : decode cX7_hears 35 = .ok (.iaload, 1) := by decide +kernel
theorem dX7_hears_36 : decode cX7_hears 36 = .ok (.if_icmp .gt 7, 3) := by decide +kernel
theorem dX7_hears_39 : decode cX7_hears 39 = .ok (.iconst 1, 1) := by decide +kernel
theorem dX7_hears_40 : decode cX7_hears 40 = .ok (.goto 4, 3) := by decide +kernel
theorem dX7_hears_43 : decode cX7_hears 43 = .ok (.iconst 0, 1) := by decide +kernel
theorem dX7_hears_44 : decode cX7_hears 44 = .ok (.ireturn, 1) := by decide +kernel
theorem dX7_stopWaiting_0 : decode cX7_stopWaiting 0 = .ok (.aload_n 0, 1) := by decide +kernel
theorem dX7_stopWaiting_1 : decode cX7_stopWaiting 1 = .ok (.iload_n 1, 1) := by decide +kernel
theorem dX7_stopWaiting_2 : decode cX7_stopWaiting 2 = .ok (.iconst 5, 1) := by decide +kernel
theorem dX7_stopWaiting_3 : decode cX7_stopWaiting 3 = .ok (.iconst 0, 1) := by decide +kernel
theorem dX7_stopWaiting_4 : decode cX7_stopWaiting 4 = .ok (.invokevirtual 75, 3) := by decide +kernel
theorem dX7_stopWaiting_7 : decode cX7_stopWaiting 7 = .ok (.aload_n 0, 1) := by decide +kernel
theorem dX7_stopWaiting_8 : decode cX7_stopWaiting 8 = .ok (.iload_n 1, 1) := by decide +kernel
theorem dX7_stopWaiting_9 : decode cX7_stopWaiting 9 = .ok (.bipush 6, 2) := by decide +kernel
theorem dX7_stopWaiting_11 : decode cX7_stopWaiting 11 = .ok (.iconst 0, 1) := by decide +kernel
theorem dX7_stopWaiting_12 : decode cX7_stopWaiting 12 = .ok (.invokevirtual 75, 3) := by decide +kernel
theorem dX7_stopWaiting_15 : decode cX7_stopWaiting 15 = .ok (.return_, 1) := by decide +kernel
theorem dX7_coughs_0 : decode cX7_coughs 0 = .ok (.iconst 0, 1) := by decide +kernel
theorem dX7_coughs_1 : decode cX7_coughs 1 = .ok (.istore_n 3, 1) := by decide +kernel
theorem dX7_coughs_2 : decode cX7_coughs 2 = .ok (.aload_n 0, 1) := by decide +kernel
theorem dX7_coughs_3 : decode cX7_coughs 3 = .ok (.iload_n 1, 1) := by decide +kernel
theorem dX7_coughs_4 : decode cX7_coughs 4 = .ok (.bipush 8, 2) := by decide +kernel
theorem dX7_coughs_6 : decode cX7_coughs 6 = .ok (.iconst 1, 1) := by decide +kernel
theorem dX7_coughs_7 : decode cX7_coughs 7 = .ok (.invokevirtual 79, 3) := by decide +kernel
theorem dX7_coughs_10 : decode cX7_coughs 10 = .ok (.iconst 0, 1) := by decide +kernel
theorem dX7_coughs_11 : decode cX7_coughs 11 = .ok (.istore 4, 2) := by decide +kernel
theorem dX7_coughs_13 : decode cX7_coughs 13 = .ok (.iload 4, 2) := by decide +kernel
theorem dX7_coughs_15 : decode cX7_coughs 15 = .ok (.aload_n 0, 1) := by decide +kernel
theorem dX7_coughs_16 : decode cX7_coughs 16 = .ok (.getfield 7, 3) := by decide +kernel
theorem dX7_coughs_19 : decode cX7_coughs 19 = .ok (.bipush 7, 2) := by decide +kernel
theorem dX7_coughs_21 : decode cX7_coughs 21 = .ok (.iaload, 1) := by decide +kernel
theorem dX7_coughs_22 : decode cX7_coughs 22 = .ok (.if_icmp .ge 92, 3) := by decide +kernel
theorem dX7_coughs_25 : decode cX7_coughs 25 = .ok (.aload_n 0, 1) := by decide +kernel
theorem dX7_coughs_26 : decode cX7_coughs 26 = .ok (.iload 4, 2) := by decide +kernel
theorem dX7_coughs_28 : decode cX7_coughs 28 = .ok (.iload_n 1, 1) := by decide +kernel
theorem dX7_coughs_29 : decode cX7_coughs 29 = .ok (.invokevirtual 82, 3) := by decide +kernel
theorem dX7_coughs_32 : decode cX7_coughs 32 = .ok (.ifCond .eq 76, 3) := by decide +kernel
theorem dX7_coughs_35 : decode cX7_coughs 35 = .ok (.iinc 3 1, 3) := by decide +kernel
theorem dX7_coughs_38 : decode cX7_coughs 38 = .ok (.aload_n 0, 1) := by decide +kernel
theorem dX7_coughs_39 : decode cX7_coughs 39 = .ok (.iload 4, 2) := by decide +kernel
theorem dX7_coughs_41 : decode cX7_coughs 41 = .ok (.bipush 9, 2) := by decide +kernel
theorem dX7_coughs_43 : decode cX7_coughs 43 = .ok (.iconst 1, 1) := by decide +kernel
theorem dX7_coughs_44 : decode cX7_coughs 44 = .ok (.invokevirtual 79, 3) := by decide +kernel
theorem dX7_coughs_47 : decode cX7_coughs 47 = .ok (.aload_n 0, 1) := by decide +kernel
theorem dX7_coughs_48 : decode cX7_coughs 48 = .ok (.iload 4, 2) := by decide +kernel
theorem dX7_coughs_50 : decode cX7_coughs 50 = .ok (.invokevirtual 85, 3) := by decide +kernel
theorem dX7_coughs_53 : decode cX7_coughs 53 = .ok (.iload_n 2, 1) := by decide +kernel
theorem dX7_coughs_54 : decode cX7_coughs 54 = .ok (.aload_n 0, 1) := by decide +kernel
theorem dX7_coughs_55 : decode cX7_coughs 55 = .ok (.getfield 7, 3) := by decide +kernel
theorem dX7_coughs_58 : decode cX7_coughs 58 = .ok (.iconst 5, 1) := by decide +kernel
theorem dX7_coughs_59 : decode cX7_coughs 59 = .ok (.iaload, 1) := by decide +kernel
theorem dX7_coughs_60 : decode cX7_coughs 60 = .ok (.if_icmp .ge 48, 3) := by decide +kernel
theorem dX7_coughs_63 : decode cX7_coughs 63 = .ok (.aload_n 0, 1) := by decide +kernel
theorem dX7_coughs_64 : decode cX7_coughs 64 = .ok (.iload 4, 2) := by decide +kernel
theorem dX7_coughs_66 : decode cX7_coughs 66 = .ok (.iconst 5, 1) := by decide +kernel
theorem dX7_coughs_67 : decode cX7_coughs 67 = .ok (.invokevirtual 62, 3) := by decide +kernel
theorem dX7_coughs_70 : decode cX7_coughs 70 = .ok (.ifCond .ne 38, 3) := by decide +kernel
theorem dX7_coughs_73 : decode cX7_coughs 73 = .ok (.aload_n 0, 1) := by decide +kernel
theorem dX7_coughs_74 : decode cX7_coughs 74 = .ok (.iload 4, 2) := by decide +kernel
theorem dX7_coughs_76 : decode cX7_coughs 76 = .ok (.bipush 11, 2) := by decide +kernel
theorem dX7_coughs_78 : decode cX7_coughs 78 = .ok (.invokevirtual 62, 3) := by decide +kernel
theorem dX7_coughs_81 : decode cX7_coughs 81 = .ok (.ifCond .ne 27, 3) := by decide +kernel
theorem dX7_coughs_84 : decode cX7_coughs 84 = .ok (.aload_n 0, 1) := by decide +kernel
theorem dX7_coughs_85 : decode cX7_coughs 85 = .ok (.iload 4, 2) := by decide +kernel
theorem dX7_coughs_87 : decode cX7_coughs 87 = .ok (.iconst 5, 1) := by decide +kernel
theorem dX7_coughs_88 : decode cX7_coughs 88 = .ok (.aload_n 0, 1) := by decide +kernel
theorem dX7_coughs_89 : decode cX7_coughs 89 = .ok (.getfield 7, 3) := by decide +kernel
theorem dX7_coughs_92 : decode cX7_coughs 92 = .ok (.iconst 4, 1) := by decide +kernel
theorem dX7_coughs_93 : decode cX7_coughs 93 = .ok (.iaload, 1) := by decide +kernel
theorem dX7_coughs_94 : decode cX7_coughs 94 = .ok (.invokevirtual 75, 3) := by decide +kernel
theorem dX7_coughs_97 : decode cX7_coughs 97 = .ok (.aload_n 0, 1) := by decide +kernel
theorem dX7_coughs_98 : decode cX7_coughs 98 = .ok (.iload 4, 2) := by decide +kernel
theorem dX7_coughs_100 : decode cX7_coughs 100 = .ok (.bipush 6, 2) := by decide +kernel
theorem dX7_coughs_102 : decode cX7_coughs 102 = .ok (.iload_n 2, 1) := by decide +kernel
theorem dX7_coughs_103 : decode cX7_coughs 103 = .ok (.iconst 1, 1) := by decide +kernel
theorem dX7_coughs_104 : decode cX7_coughs 104 = .ok (.iadd, 1) := by decide +kernel
theorem dX7_coughs_105 : decode cX7_coughs 105 = .ok (.invokevirtual 75, 3) := by decide +kernel
theorem dX7_coughs_108 : decode cX7_coughs 108 = .ok (.iinc 4 1, 3) := by decide +kernel
theorem dX7_coughs_111 : decode cX7_coughs 111 = .ok (.goto (-98), 3) := by decide +kernel
theorem dX7_coughs_114 : decode cX7_coughs 114 = .ok (.iload_n 3, 1) := by decide +kernel
theorem dX7_coughs_115 : decode cX7_coughs 115 = .ok (.ireturn, 1) := by decide +kernel
theorem dX7_endGoal_0 : decode cX7_endGoal 0 = .ok (.aload_n 0, 1) := by decide +kernel
theorem dX7_endGoal_1 : decode cX7_endGoal 1 = .ok (.iload_n 1, 1) := by decide +kernel
theorem dX7_endGoal_2 : decode cX7_endGoal 2 = .ok (.iconst 3, 1) := by decide +kernel
theorem dX7_endGoal_3 : decode cX7_endGoal 3 = .ok (.aload_n 0, 1) := by decide +kernel
theorem dX7_endGoal_4 : decode cX7_endGoal 4 = .ok (.iload_n 1, 1) := by decide +kernel
theorem dX7_endGoal_5 : decode cX7_endGoal 5 = .ok (.iconst 3, 1) := by decide +kernel
theorem dX7_endGoal_6 : decode cX7_endGoal 6 = .ok (.invokevirtual 48, 3) := by decide +kernel
theorem dX7_endGoal_9 : decode cX7_endGoal 9 = .ok (.iconst 1, 1) := by decide +kernel
theorem dX7_endGoal_10 : decode cX7_endGoal 10 = .ok (.isub, 1) := by decide +kernel
theorem dX7_endGoal_11 : decode cX7_endGoal 11 = .ok (.invokevirtual 89, 3) := by decide +kernel
theorem dX7_endGoal_14 : decode cX7_endGoal 14 = .ok (.bipush 8, 2) := by decide +kernel
theorem dX7_endGoal_16 : decode cX7_endGoal 16 = .ok (.istore_n 2, 1) := by decide +kernel
theorem dX7_endGoal_17 : decode cX7_endGoal 17 = .ok (.iload_n 2, 1) := by decide +kernel
theorem dX7_endGoal_18 : decode cX7_endGoal 18 = .ok (.bipush 8, 2) := by decide +kernel
theorem dX7_endGoal_20 : decode cX7_endGoal 20 = .ok (.iconst 2, 1) := by decide +kernel
theorem dX7_endGoal_21 : decode cX7_endGoal 21 = .ok (.aload_n 0, 1) := by decide +kernel
theorem dX7_endGoal_22 : decode cX7_endGoal 22 = .ok (.iload_n 1, 1) := by decide +kernel
theorem dX7_endGoal_23 : decode cX7_endGoal 23 = .ok (.iconst 3, 1) := by decide +kernel
theorem dX7_endGoal_24 : decode cX7_endGoal 24 = .ok (.invokevirtual 48, 3) := by decide +kernel
theorem dX7_endGoal_27 : decode cX7_endGoal 27 = .ok (.imul, 1) := by decide +kernel
theorem dX7_endGoal_28 : decode cX7_endGoal 28 = .ok (.iadd, 1) := by decide +kernel
theorem dX7_endGoal_29 : decode cX7_endGoal 29 = .ok (.if_icmp .ge 23, 3) := by decide +kernel
theorem dX7_endGoal_32 : decode cX7_endGoal 32 = .ok (.aload_n 0, 1) := by decide +kernel
theorem dX7_endGoal_33 : decode cX7_endGoal 33 = .ok (.iload_n 1, 1) := by decide +kernel
theorem dX7_endGoal_34 : decode cX7_endGoal 34 = .ok (.iload_n 2, 1) := by decide +kernel
theorem dX7_endGoal_35 : decode cX7_endGoal 35 = .ok (.aload_n 0, 1) := by decide +kernel
theorem dX7_endGoal_36 : decode cX7_endGoal 36 = .ok (.iload_n 1, 1) := by decide +kernel
theorem dX7_endGoal_37 : decode cX7_endGoal 37 = .ok (.iload_n 2, 1) := by decide +kernel
theorem dX7_endGoal_38 : decode cX7_endGoal 38 = .ok (.iconst 2, 1) := by decide +kernel
theorem dX7_endGoal_39 : decode cX7_endGoal 39 = .ok (.iadd, 1) := by decide +kernel
theorem dX7_endGoal_40 : decode cX7_endGoal 40 = .ok (.invokevirtual 48, 3) := by decide +kernel
theorem dX7_endGoal_43 : decode cX7_endGoal 43 = .ok (.invokevirtual 89, 3) := by decide +kernel
theorem dX7_endGoal_46 : decode cX7_endGoal 46 = .ok (.iinc 2 1, 3) := by decide +kernel
theorem dX7_endGoal_49 : decode cX7_endGoal 49 = .ok (.goto (-32), 3) := by decide +kernel
theorem dX7_endGoal_52 : decode cX7_endGoal 52 = .ok (.aload_n 0, 1) := by decide +kernel
theorem dX7_endGoal_53 : decode cX7_endGoal 53 = .ok (.iload_n 1, 1) := by decide +kernel
theorem dX7_endGoal_54 : decode cX7_endGoal 54 = .ok (.iconst 4, 1) := by decide +kernel
theorem dX7_endGoal_55 : decode cX7_endGoal 55 = .ok (.bipush (-6), 2) := by decide +kernel
theorem dX7_endGoal_57 : decode cX7_endGoal 57 = .ok (.invokevirtual 89, 3) := by decide +kernel
theorem dX7_endGoal_60 : decode cX7_endGoal 60 = .ok (.aload_n 0, 1) := by decide +kernel
theorem dX7_endGoal_61 : decode cX7_endGoal 61 = .ok (.iload_n 1, 1) := by decide +kernel
theorem dX7_endGoal_62 : decode cX7_endGoal 62 = .ok (.iconst 2, 1) := by decide +kernel
theorem dX7_endGoal_63 : decode cX7_endGoal 63 = .ok (.aload_n 0, 1) := by decide +kernel
theorem dX7_endGoal_64 : decode cX7_endGoal 64 = .ok (.iload_n 1, 1) := by decide +kernel
theorem dX7_endGoal_65 : decode cX7_endGoal 65 = .ok (.iconst 3, 1) := by decide +kernel
theorem dX7_endGoal_66 : decode cX7_endGoal 66 = .ok (.invokevirtual 48, 3) := by decide +kernel
theorem dX7_endGoal_69 : decode cX7_endGoal 69 = .ok (.ifCond .ne 7, 3) := by decide +kernel
theorem dX7_endGoal_72 : decode cX7_endGoal 72 = .ok (.iconst 1, 1) := by decide +kernel
theorem dX7_endGoal_73 : decode cX7_endGoal 73 = .ok (.goto 4, 3) := by decide +kernel
theorem dX7_endGoal_76 : decode cX7_endGoal 76 = .ok (.iconst 0, 1) := by decide +kernel
theorem dX7_endGoal_77 : decode cX7_endGoal 77 = .ok (.invokevirtual 89, 3) := by decide +kernel
theorem dX7_endGoal_80 : decode cX7_endGoal 80 = .ok (.return_, 1) := by decide +kernel
theorem dX7_walk_0 : decode cX7_walk 0 = .ok (.aload_n 0, 1) := by decide +kernel
theorem dX7_walk_1 : decode cX7_walk 1 = .ok (.iload_n 1, 1) := by decide +kernel
theorem dX7_walk_2 : decode cX7_walk 2 = .ok (.bipush 8, 2) := by decide +kernel
theorem dX7_walk_4 : decode cX7_walk 4 = .ok (.invokevirtual 48, 3) := by decide +kernel
theorem dX7_walk_7 : decode cX7_walk 7 = .ok (.istore_n 2, 1) := by decide +kernel
theorem dX7_walk_8 : decode cX7_walk 8 = .ok (.aload_n 0, 1) := by decide +kernel
theorem dX7_walk_9 : decode cX7_walk 9 = .ok (.iload_n 1, 1) := by decide +kernel
theorem dX7_walk_10 : decode cX7_walk 10 = .ok (.iconst 0, 1) := by decide +kernel
theorem dX7_walk_11 : decode cX7_walk 11 = .ok (.invokevirtual 48, 3) := by decide +kernel
theorem dX7_walk_14 : decode cX7_walk 14 = .ok (.istore_n 3, 1) := by decide +kernel
theorem dX7_walk_15 : decode cX7_walk 15 = .ok (.iload_n 3, 1) := by decide +kernel
theorem dX7_walk_16 : decode cX7_walk 16 = .ok (.iload_n 2, 1) := by decide +kernel
theorem dX7_walk_17 : decode cX7_walk 17 = .ok (.invokestatic 65, 3) := by decide +kernel
theorem dX7_walk_20 : decode cX7_walk 20 = .ok (.aload_n 0, 1) := by decide +kernel
theorem dX7_walk_21 : decode cX7_walk 21 = .ok (.iload_n 1, 1) := by decide +kernel
theorem dX7_walk_22 : decode cX7_walk 22 = .ok (.iconst 1, 1) := by decide +kernel
theorem dX7_walk_23 : decode cX7_walk 23 = .ok (.invokevirtual 48, 3) := by decide +kernel
theorem dX7_walk_26 : decode cX7_walk 26 = .ok (.if_icmp .ge 11, 3) := by decide +kernel
theorem dX7_walk_29 : decode cX7_walk 29 = .ok (.iload_n 3, 1) := by decide +kernel
theorem dX7_walk_30 : decode cX7_walk 30 = .ok (.iload_n 2, 1) := by decide +kernel
theorem dX7_walk_31 : decode cX7_walk 31 = .ok (.invokestatic 65, 3) := by decide +kernel
theorem dX7_walk_34 : decode cX7_walk 34 = .ok (.goto 9, 3) := by decide +kernel
theorem dX7_walk_37 : decode cX7_walk 37 = .ok (.aload_n 0, 1) := by decide +kernel
theorem dX7_walk_38 : decode cX7_walk 38 = .ok (.iload_n 1, 1) := by decide +kernel
theorem dX7_walk_39 : decode cX7_walk 39 = .ok (.iconst 1, 1) := by decide +kernel
theorem dX7_walk_40 : decode cX7_walk 40 = .ok (.invokevirtual 48, 3) := by decide +kernel
theorem dX7_walk_43 : decode cX7_walk 43 = .ok (.istore 4, 2) := by decide +kernel
theorem dX7_walk_45 : decode cX7_walk 45 = .ok (.aload_n 0, 1) := by decide +kernel
theorem dX7_walk_46 : decode cX7_walk 46 = .ok (.iload_n 1, 1) := by decide +kernel
theorem dX7_walk_47 : decode cX7_walk 47 = .ok (.iconst 0, 1) := by decide +kernel
theorem dX7_walk_48 : decode cX7_walk 48 = .ok (.iload_n 2, 1) := by decide +kernel
theorem dX7_walk_49 : decode cX7_walk 49 = .ok (.iload_n 3, 1) := by decide +kernel
theorem dX7_walk_50 : decode cX7_walk 50 = .ok (.if_icmp .ge 10, 3) := by decide +kernel
theorem dX7_walk_53 : decode cX7_walk 53 = .ok (.iload_n 3, 1) := by decide +kernel
theorem dX7_walk_54 : decode cX7_walk 54 = .ok (.iload 4, 2) := by decide +kernel
theorem dX7_walk_56 : decode cX7_walk 56 = .ok (.isub, 1) := by decide +kernel
theorem dX7_walk_57 : decode cX7_walk 57 = .ok (.goto 7, 3) := by decide +kernel
theorem dX7_walk_60 : decode cX7_walk 60 = .ok (.iload_n 3, 1) := by decide +kernel
theorem dX7_walk_61 : decode cX7_walk 61 = .ok (.iload 4, 2) := by decide +kernel
theorem dX7_walk_63 : decode cX7_walk 63 = .ok (.iadd, 1) := by decide +kernel
theorem dX7_walk_64 : decode cX7_walk 64 = .ok (.invokevirtual 89, 3) := by decide +kernel
theorem dX7_walk_67 : decode cX7_walk 67 = .ok (.aload_n 0, 1) := by decide +kernel
theorem dX7_walk_68 : decode cX7_walk 68 = .ok (.iload_n 1, 1) := by decide +kernel
theorem dX7_walk_69 : decode cX7_walk 69 = .ok (.bipush 6, 2) := by decide +kernel
theorem dX7_walk_71 : decode cX7_walk 71 = .ok (.aload_n 0, 1) := by decide +kernel
theorem dX7_walk_72 : decode cX7_walk 72 = .ok (.iload_n 1, 1) := by decide +kernel
theorem dX7_walk_73 : decode cX7_walk 73 = .ok (.bipush 6, 2) := by decide +kernel
theorem dX7_walk_75 : decode cX7_walk 75 = .ok (.invokevirtual 48, 3) := by decide +kernel
theorem dX7_walk_78 : decode cX7_walk 78 = .ok (.iload 4, 2) := by decide +kernel
theorem dX7_walk_80 : decode cX7_walk 80 = .ok (.iadd, 1) := by decide +kernel
theorem dX7_walk_81 : decode cX7_walk 81 = .ok (.invokevirtual 89, 3) := by decide +kernel
theorem dX7_walk_84 : decode cX7_walk 84 = .ok (.aload_n 0, 1) := by decide +kernel
theorem dX7_walk_85 : decode cX7_walk 85 = .ok (.iload_n 1, 1) := by decide +kernel
theorem dX7_walk_86 : decode cX7_walk 86 = .ok (.iconst 0, 1) := by decide +kernel
theorem dX7_walk_87 : decode cX7_walk 87 = .ok (.invokevirtual 48, 3) := by decide +kernel
theorem dX7_walk_90 : decode cX7_walk 90 = .ok (.iload_n 2, 1) := by decide +kernel
theorem dX7_walk_91 : decode cX7_walk 91 = .ok (.if_icmp .ne 28, 3) := by decide +kernel
theorem dX7_walk_94 : decode cX7_walk 94 = .ok (.aload_n 0, 1) := by decide +kernel
theorem dX7_walk_95 : decode cX7_walk 95 = .ok (.iload_n 1, 1) := by decide +kernel
theorem dX7_walk_96 : decode cX7_walk 96 = .ok (.bipush 9, 2) := by decide +kernel
theorem dX7_walk_98 : decode cX7_walk 98 = .ok (.invokevirtual 48, 3) := by decide +kernel
theorem dX7_walk_101 : decode cX7_walk 101 = .ok (.ifCond .le 13, 3) := by decide +kernel
theorem dX7_walk_104 : decode cX7_walk 104 = .ok (.aload_n 0, 1) := by decide +kernel
theorem dX7_walk_105 : decode cX7_walk 105 = .ok (.iload_n 1, 1) := by decide +kernel
theorem dX7_walk_106 : decode cX7_walk 106 = .ok (.iconst 4, 1) := by decide +kernel
theorem dX7_walk_107 : decode cX7_walk 107 = .ok (.iconst 0, 1) := by decide +kernel
theorem dX7_walk_108 : decode cX7_walk 108 = .ok (.invokevirtual 89, 3) := by decide +kernel
theorem dX7_walk_111 : decode cX7_walk 111 = .ok (.goto 8, 3) := by decide +kernel
theorem dX7_walk_114 : decode cX7_walk 114 = .ok (.aload_n 0, 1) := by decide +kernel
theorem dX7_walk_115 : decode cX7_walk 115 = .ok (.iload_n 1, 1) := by decide +kernel
theorem dX7_walk_116 : decode cX7_walk 116 = .ok (.invokevirtual 92, 3) := by decide +kernel
theorem dX7_walk_119 : decode cX7_walk 119 = .ok (.return_, 1) := by decide +kernel
theorem dX7_go_0 : decode cX7_go 0 = .ok (.aload_n 0, 1) := by decide +kernel
theorem dX7_go_1 : decode cX7_go 1 = .ok (.iload_n 1, 1) := by decide +kernel
theorem dX7_go_2 : decode cX7_go 2 = .ok (.invokevirtual 95, 3) := by decide +kernel
theorem dX7_go_5 : decode cX7_go 5 = .ok (.ifCond .eq 12, 3) := by decide +kernel
theorem dX7_go_8 : decode cX7_go 8 = .ok (.aload_n 0, 1) := by decide +kernel
theorem dX7_go_9 : decode cX7_go 9 = .ok (.iload_n 1, 1) := by decide +kernel
theorem dX7_go_10 : decode cX7_go 10 = .ok (.iconst 3, 1) := by decide +kernel
theorem dX7_go_11 : decode cX7_go 11 = .ok (.invokevirtual 48, 3) := by decide +kernel
theorem dX7_go_14 : decode cX7_go 14 = .ok (.ifCond .ne 4, 3) := by decide +kernel
theorem dX7_go_17 : decode cX7_go 17 = .ok (.return_, 1) := by decide +kernel
theorem dX7_go_18 : decode cX7_go 18 = .ok (.aload_n 0, 1) := by decide +kernel
theorem dX7_go_19 : decode cX7_go 19 = .ok (.iload_n 1, 1) := by decide +kernel
theorem dX7_go_20 : decode cX7_go 20 = .ok (.iconst 4, 1) := by decide +kernel
theorem dX7_go_21 : decode cX7_go 21 = .ok (.invokevirtual 48, 3) := by decide +kernel
theorem dX7_go_24 : decode cX7_go 24 = .ok (.ifCond .ge 9, 3) := by decide +kernel
theorem dX7_go_27 : decode cX7_go 27 = .ok (.aload_n 0, 1) := by decide +kernel
theorem dX7_go_28 : decode cX7_go 28 = .ok (.iload_n 1, 1) := by decide +kernel
theorem dX7_go_29 : decode cX7_go 29 = .ok (.invokevirtual 99, 3) := by decide +kernel
theorem dX7_go_32 : decode cX7_go 32 = .ok (.return_, 1) := by decide +kernel
theorem dX7_go_33 : decode cX7_go 33 = .ok (.aload_n 0, 1) := by decide +kernel
theorem dX7_go_34 : decode cX7_go 34 = .ok (.iload_n 1, 1) := by decide +kernel
theorem dX7_go_35 : decode cX7_go 35 = .ok (.iconst 4, 1) := by decide +kernel
theorem dX7_go_36 : decode cX7_go 36 = .ok (.aload_n 0, 1) := by decide +kernel
theorem dX7_go_37 : decode cX7_go 37 = .ok (.iload_n 1, 1) := by decide +kernel
theorem dX7_go_38 : decode cX7_go 38 = .ok (.iconst 4, 1) := by decide +kernel
theorem dX7_go_39 : decode cX7_go 39 = .ok (.invokevirtual 48, 3) := by decide +kernel
theorem dX7_go_42 : decode cX7_go 42 = .ok (.iconst 1, 1) := by decide +kernel
theorem dX7_go_43 : decode cX7_go 43 = .ok (.iadd, 1) := by decide +kernel
theorem dX7_go_44 : decode cX7_go 44 = .ok (.invokevirtual 89, 3) := by decide +kernel
theorem dX7_go_47 : decode cX7_go 47 = .ok (.aload_n 0, 1) := by decide +kernel
theorem dX7_go_48 : decode cX7_go 48 = .ok (.iload_n 1, 1) := by decide +kernel
theorem dX7_go_49 : decode cX7_go 49 = .ok (.iconst 4, 1) := by decide +kernel
theorem dX7_go_50 : decode cX7_go 50 = .ok (.invokevirtual 48, 3) := by decide +kernel
theorem dX7_go_53 : decode cX7_go 53 = .ok (.aload_n 0, 1) := by decide +kernel
theorem dX7_go_54 : decode cX7_go 54 = .ok (.iload_n 1, 1) := by decide +kernel
theorem dX7_go_55 : decode cX7_go 55 = .ok (.bipush 9, 2) := by decide +kernel
theorem dX7_go_57 : decode cX7_go 57 = .ok (.invokevirtual 48, 3) := by decide +kernel
theorem dX7_go_60 : decode cX7_go 60 = .ok (.if_icmp .ne 8, 3) := by decide +kernel
theorem dX7_go_63 : decode cX7_go 63 = .ok (.aload_n 0, 1) := by decide +kernel
theorem dX7_go_64 : decode cX7_go 64 = .ok (.iload_n 1, 1) := by decide +kernel
theorem dX7_go_65 : decode cX7_go 65 = .ok (.invokevirtual 92, 3) := by decide +kernel
theorem dX7_go_68 : decode cX7_go 68 = .ok (.return_, 1) := by decide +kernel
theorem dX7_coughAgain_0 : decode cX7_coughAgain 0 = .ok (.iconst 0, 1) := by decide +kernel
theorem dX7_coughAgain_1 : decode cX7_coughAgain 1 = .ok (.istore_n 1, 1) := by decide +kernel
theorem dX7_coughAgain_2 : decode cX7_coughAgain 2 = .ok (.iload_n 1, 1) := by decide +kernel
theorem dX7_coughAgain_3 : decode cX7_coughAgain 3 = .ok (.aload_n 0, 1) := by decide +kernel
theorem dX7_coughAgain_4 : decode cX7_coughAgain 4 = .ok (.getfield 7, 3) := by decide +kernel
theorem dX7_coughAgain_7 : decode cX7_coughAgain 7 = .ok (.bipush 7, 2) := by decide +kernel
theorem dX7_coughAgain_9 : decode cX7_coughAgain 9 = .ok (.iaload, 1) := by decide +kernel
theorem dX7_coughAgain_10 : decode cX7_coughAgain 10 = .ok (.if_icmp .ge 68, 3) := by decide +kernel
theorem dX7_coughAgain_13 : decode cX7_coughAgain 13 = .ok (.aload_n 0, 1) := by decide +kernel
theorem dX7_coughAgain_14 : decode cX7_coughAgain 14 = .ok (.getfield 26, 3) := by decide +kernel
theorem dX7_coughAgain_17 : decode cX7_coughAgain 17 = .ok (.iload_n 1, 1) := by decide +kernel
theorem dX7_coughAgain_18 : decode cX7_coughAgain 18 = .ok (.bipush (-6), 2) := by decide +kernel
theorem dX7_coughAgain_20 : decode cX7_coughAgain 20 = .ok (.iastore, 1) := by decide +kernel
theorem dX7_coughAgain_21 : decode cX7_coughAgain 21 = .ok (.aload_n 0, 1) := by decide +kernel
theorem dX7_coughAgain_22 : decode cX7_coughAgain 22 = .ok (.iload_n 1, 1) := by decide +kernel
theorem dX7_coughAgain_23 : decode cX7_coughAgain 23 = .ok (.iconst 5, 1) := by decide +kernel
theorem dX7_coughAgain_24 : decode cX7_coughAgain 24 = .ok (.invokevirtual 62, 3) := by decide +kernel
theorem dX7_coughAgain_27 : decode cX7_coughAgain 27 = .ok (.ifCond .le 45, 3) := by decide +kernel
theorem dX7_coughAgain_30 : decode cX7_coughAgain 30 = .ok (.aload_n 0, 1) := by decide +kernel
theorem dX7_coughAgain_31 : decode cX7_coughAgain 31 = .ok (.iload_n 1, 1) := by decide +kernel
theorem dX7_coughAgain_32 : decode cX7_coughAgain 32 = .ok (.iconst 5, 1) := by decide +kernel
theorem dX7_coughAgain_33 : decode cX7_coughAgain 33 = .ok (.iconst (-1), 1) := by decide +kernel
theorem dX7_coughAgain_34 : decode cX7_coughAgain 34 = .ok (.invokevirtual 79, 3) := by decide +kernel
theorem dX7_coughAgain_37 : decode cX7_coughAgain 37 = .ok (.aload_n 0, 1) := by decide +kernel
theorem dX7_coughAgain_38 : decode cX7_coughAgain 38 = .ok (.iload_n 1, 1) := by decide +kernel
theorem dX7_coughAgain_39 : decode cX7_coughAgain 39 = .ok (.iconst 5, 1) := by decide +kernel
theorem dX7_coughAgain_40 : decode cX7_coughAgain 40 = .ok (.invokevirtual 62, 3) := by decide +kernel
theorem dX7_coughAgain_43 : decode cX7_coughAgain 43 = .ok (.ifCond .ne 29, 3) := by decide +kernel
theorem dX7_coughAgain_46 : decode cX7_coughAgain 46 = .ok (.aload_n 0, 1) := by decide +kernel
theorem dX7_coughAgain_47 : decode cX7_coughAgain 47 = .ok (.getfield 26, 3) := by decide +kernel
theorem dX7_coughAgain_50 : decode cX7_coughAgain 50 = .ok (.iload_n 1, 1) := by decide +kernel
theorem dX7_coughAgain_51 : decode cX7_coughAgain 51 = .ok (.aload_n 0, 1) := by decide +kernel
theorem dX7_coughAgain_52 : decode cX7_coughAgain 52 = .ok (.iload_n 1, 1) := by decide +kernel
theorem dX7_coughAgain_53 : decode cX7_coughAgain 53 = .ok (.bipush 6, 2) := by decide +kernel
theorem dX7_coughAgain_55 : decode cX7_coughAgain 55 = .ok (.invokevirtual 62, 3) := by decide +kernel
theorem dX7_coughAgain_58 : decode cX7_coughAgain 58 = .ok (.iastore, 1) := by decide +kernel
theorem dX7_coughAgain_59 : decode cX7_coughAgain 59 = .ok (.aload_n 0, 1) := by decide +kernel
theorem dX7_coughAgain_60 : decode cX7_coughAgain 60 = .ok (.iload_n 1, 1) := by decide +kernel
theorem dX7_coughAgain_61 : decode cX7_coughAgain 61 = .ok (.invokevirtual 102, 3) := by decide +kernel
theorem dX7_coughAgain_64 : decode cX7_coughAgain 64 = .ok (.aload_n 0, 1) := by decide +kernel
theorem dX7_coughAgain_65 : decode cX7_coughAgain 65 = .ok (.iload_n 1, 1) := by decide +kernel
theorem dX7_coughAgain_66 : decode cX7_coughAgain 66 = .ok (.bipush 11, 2) := by decide +kernel
theorem dX7_coughAgain_68 : decode cX7_coughAgain 68 = .ok (.iconst 1, 1) := by decide +kernel
theorem dX7_coughAgain_69 : decode cX7_coughAgain 69 = .ok (.invokevirtual 75, 3) := by decide +kernel
theorem dX7_coughAgain_72 : decode cX7_coughAgain 72 = .ok (.iinc 1 1, 3) := by decide +kernel
theorem dX7_coughAgain_75 : decode cX7_coughAgain 75 = .ok (.goto (-73), 3) := by decide +kernel
theorem dX7_coughAgain_78 : decode cX7_coughAgain 78 = .ok (.iconst 0, 1) := by decide +kernel
theorem dX7_coughAgain_79 : decode cX7_coughAgain 79 = .ok (.istore_n 1, 1) := by decide +kernel
theorem dX7_coughAgain_80 : decode cX7_coughAgain 80 = .ok (.iload_n 1, 1) := by decide +kernel
theorem dX7_coughAgain_81 : decode cX7_coughAgain 81 = .ok (.aload_n 0, 1) := by decide +kernel
theorem dX7_coughAgain_82 : decode cX7_coughAgain 82 = .ok (.getfield 7, 3) := by decide +kernel
theorem dX7_coughAgain_85 : decode cX7_coughAgain 85 = .ok (.bipush 7, 2) := by decide +kernel
theorem dX7_coughAgain_87 : decode cX7_coughAgain 87 = .ok (.iaload, 1) := by decide +kernel
theorem dX7_coughAgain_88 : decode cX7_coughAgain 88 = .ok (.if_icmp .ge 30, 3) := by decide +kernel
theorem dX7_coughAgain_91 : decode cX7_coughAgain 91 = .ok (.aload_n 0, 1) := by decide +kernel
theorem dX7_coughAgain_92 : decode cX7_coughAgain 92 = .ok (.getfield 26, 3) := by decide +kernel
theorem dX7_coughAgain_95 : decode cX7_coughAgain 95 = .ok (.iload_n 1, 1) := by decide +kernel
theorem dX7_coughAgain_96 : decode cX7_coughAgain 96 = .ok (.iaload, 1) := by decide +kernel
theorem dX7_coughAgain_97 : decode cX7_coughAgain 97 = .ok (.ifCond .lt 15, 3) := by decide +kernel
theorem dX7_coughAgain_100 : decode cX7_coughAgain 100 = .ok (.aload_n 0, 1) := by decide +kernel
theorem dX7_coughAgain_101 : decode cX7_coughAgain 101 = .ok (.iload_n 1, 1) := by decide +kernel
theorem dX7_coughAgain_102 : decode cX7_coughAgain 102 = .ok (.aload_n 0, 1) := by decide +kernel
theorem dX7_coughAgain_103 : decode cX7_coughAgain 103 = .ok (.getfield 26, 3) := by decide +kernel
theorem dX7_coughAgain_106 : decode cX7_coughAgain 106 = .ok (.iload_n 1, 1) := by decide +kernel
theorem dX7_coughAgain_107 : decode cX7_coughAgain 107 = .ok (.iaload, 1) := by decide +kernel
theorem dX7_coughAgain_108 : decode cX7_coughAgain 108 = .ok (.invokevirtual 105, 3) := by decide +kernel
theorem dX7_coughAgain_111 : decode cX7_coughAgain 111 = .ok (.pop, 1) := by decide +kernel
theorem dX7_coughAgain_112 : decode cX7_coughAgain 112 = .ok (.iinc 1 1, 3) := by decide +kernel
theorem dX7_coughAgain_115 : decode cX7_coughAgain 115 = .ok (.goto (-35), 3) := by decide +kernel
theorem dX7_coughAgain_118 : decode cX7_coughAgain 118 = .ok (.return_, 1) := by decide +kernel
theorem dX7_sees_0 : decode cX7_sees 0 = .ok (.iconst 0, 1) := by decide +kernel
theorem dX7_sees_1 : decode cX7_sees 1 = .ok (.istore_n 2, 1) := by decide +kernel
theorem dX7_sees_2 : decode cX7_sees 2 = .ok (.iconst 0, 1) := by decide +kernel
theorem dX7_sees_3 : decode cX7_sees 3 = .ok (.istore_n 3, 1) := by decide +kernel
theorem dX7_sees_4 : decode cX7_sees 4 = .ok (.iload_n 3, 1) := by decide +kernel
theorem dX7_sees_5 : decode cX7_sees 5 = .ok (.aload_n 0, 1) := by decide +kernel
theorem dX7_sees_6 : decode cX7_sees 6 = .ok (.getfield 7, 3) := by decide +kernel
theorem dX7_sees_9 : decode cX7_sees 9 = .ok (.bipush 9, 2) := by decide +kernel
theorem dX7_sees_11 : decode cX7_sees 11 = .ok (.iaload, 1) := by decide +kernel
theorem dX7_sees_12 : decode cX7_sees 12 = .ok (.if_icmp .ge 49, 3) := by decide +kernel
theorem dX7_sees_15 : decode cX7_sees 15 = .ok (.iload_n 2, 1) := by decide +kernel
theorem dX7_sees_16 : decode cX7_sees 16 = .ok (.aload_n 0, 1) := by decide +kernel
theorem dX7_sees_17 : decode cX7_sees 17 = .ok (.iload_n 3, 1) := by decide +kernel
theorem dX7_sees_18 : decode cX7_sees 18 = .ok (.invokevirtual 95, 3) := by decide +kernel
theorem dX7_sees_21 : decode cX7_sees 21 = .ok (.ifCond .eq 31, 3) := by decide +kernel
theorem dX7_sees_24 : decode cX7_sees 24 = .ok (.aload_n 0, 1) := by decide +kernel
theorem dX7_sees_25 : decode cX7_sees 25 = .ok (.iload_n 3, 1) := by decide +kernel
theorem dX7_sees_26 : decode cX7_sees 26 = .ok (.iconst 0, 1) := by decide +kernel
theorem dX7_sees_27 : decode cX7_sees 27 = .ok (.invokevirtual 48, 3) := by decide +kernel
theorem dX7_sees_30 : decode cX7_sees 30 = .ok (.aload_n 0, 1) := by decide +kernel
theorem dX7_sees_31 : decode cX7_sees 31 = .ok (.iload_n 1, 1) := by decide +kernel
theorem dX7_sees_32 : decode cX7_sees 32 = .ok (.iconst 0, 1) := by decide +kernel
theorem dX7_sees_33 : decode cX7_sees 33 = .ok (.invokevirtual 62, 3) := by decide +kernel
theorem dX7_sees_36 : decode cX7_sees 36 = .ok (.invokestatic 65, 3) := by decide +kernel
theorem dX7_sees_39 : decode cX7_sees 39 = .ok (.aload_n 0, 1) := by decide +kernel
theorem dX7_sees_40 : decode cX7_sees 40 = .ok (.getfield 7, 3) := by decide +kernel
theorem dX7_sees_43 : decode cX7_sees 43 = .ok (.iconst 0, 1) := by decide +kernel
theorem dX7_sees_44 : decode cX7_sees 44 = .ok (.iaload, 1) := by decide +kernel
theorem dX7_sees_45 : decode cX7_sees 45 = .ok (.if_icmp .gt 7, 3) := by decide +kernel
theorem dX7_sees_48 : decode cX7_sees 48 = .ok (.iconst 1, 1) := by decide +kernel
theorem dX7_sees_49 : decode cX7_sees 49 = .ok (.goto 4, 3) := by decide +kernel
theorem dX7_sees_52 : decode cX7_sees 52 = .ok (.iconst 0, 1) := by decide +kernel
theorem dX7_sees_53 : decode cX7_sees 53 = .ok (.ior, 1) := by decide +kernel
theorem dX7_sees_54 : decode cX7_sees 54 = .ok (.istore_n 2, 1) := by decide +kernel
theorem dX7_sees_55 : decode cX7_sees 55 = .ok (.iinc 3 1, 3) := by decide +kernel
theorem dX7_sees_58 : decode cX7_sees 58 = .ok (.goto (-54), 3) := by decide +kernel
theorem dX7_sees_61 : decode cX7_sees 61 = .ok (.iload_n 2, 1) := by decide +kernel
theorem dX7_sees_62 : decode cX7_sees 62 = .ok (.ifCond .eq 16, 3) := by decide +kernel
theorem dX7_sees_65 : decode cX7_sees 65 = .ok (.aload_n 0, 1) := by decide +kernel
theorem dX7_sees_66 : decode cX7_sees 66 = .ok (.iload_n 1, 1) := by decide +kernel
theorem dX7_sees_67 : decode cX7_sees 67 = .ok (.iconst 3, 1) := by decide +kernel
theorem dX7_sees_68 : decode cX7_sees 68 = .ok (.invokevirtual 62, 3) := by decide +kernel
theorem dX7_sees_71 : decode cX7_sees 71 = .ok (.ifCond .ne 7, 3) := by decide +kernel
theorem dX7_sees_74 : decode cX7_sees 74 = .ok (.iconst 1, 1) := by decide +kernel
theorem dX7_sees_75 : decode cX7_sees 75 = .ok (.goto 4, 3) := by decide +kernel
theorem dX7_sees_78 : decode cX7_sees 78 = .ok (.iconst 0, 1) := by decide +kernel
theorem dX7_sees_79 : decode cX7_sees 79 = .ok (.ireturn, 1) := by decide +kernel
theorem dX7_look_0 : decode cX7_look 0 = .ok (.iconst 0, 1) := by decide +kernel
theorem dX7_look_1 : decode cX7_look 1 = .ok (.istore_n 1, 1) := by decide +kernel
theorem dX7_look_2 : decode cX7_look 2 = .ok (.iload_n 1, 1) := by decide +kernel
theorem dX7_look_3 : decode cX7_look 3 = .ok (.aload_n 0, 1) := by decide +kernel
theorem dX7_look_4 : decode cX7_look 4 = .ok (.getfield 7, 3) := by decide +kernel
theorem dX7_look_7 : decode cX7_look 7 = .ok (.bipush 7, 2) := by decide +kernel
theorem dX7_look_9 : decode cX7_look 9 = .ok (.iaload, 1) := by decide +kernel
theorem dX7_look_10 : decode cX7_look 10 = .ok (.if_icmp .ge 21, 3) := by decide +kernel
theorem dX7_look_13 : decode cX7_look 13 = .ok (.aload_n 0, 1) := by decide +kernel
theorem dX7_look_14 : decode cX7_look 14 = .ok (.getfield 29, 3) := by decide +kernel
theorem dX7_look_17 : decode cX7_look 17 = .ok (.iload_n 1, 1) := by decide +kernel
theorem dX7_look_18 : decode cX7_look 18 = .ok (.aload_n 0, 1) := by decide +kernel
theorem dX7_look_19 : decode cX7_look 19 = .ok (.iload_n 1, 1) := by decide +kernel
theorem dX7_look_20 : decode cX7_look 20 = .ok (.iconst 2, 1) := by decide +kernel
theorem dX7_look_21 : decode cX7_look 21 = .ok (.invokevirtual 62, 3) := by decide +kernel
theorem dX7_look_24 : decode cX7_look 24 = .ok (.iastore, 1) := by decide +kernel
theorem dX7_look_25 : decode cX7_look 25 = .ok (.iinc 1 1, 3) := by decide +kernel
theorem dX7_look_28 : decode cX7_look 28 = .ok (.goto (-26), 3) := by decide +kernel
theorem dX7_look_31 : decode cX7_look 31 = .ok (.iconst 0, 1) := by decide +kernel
theorem dX7_look_32 : decode cX7_look 32 = .ok (.istore_n 1, 1) := by decide +kernel
theorem dX7_look_33 : decode cX7_look 33 = .ok (.iload_n 1, 1) := by decide +kernel
theorem dX7_look_34 : decode cX7_look 34 = .ok (.aload_n 0, 1) := by decide +kernel
theorem dX7_look_35 : decode cX7_look 35 = .ok (.getfield 7, 3) := by decide +kernel
theorem dX7_look_38 : decode cX7_look 38 = .ok (.bipush 7, 2) := by decide +kernel
theorem dX7_look_40 : decode cX7_look 40 = .ok (.iaload, 1) := by decide +kernel
theorem dX7_look_41 : decode cX7_look 41 = .ok (.if_icmp .ge 52, 3) := by decide +kernel
theorem dX7_look_44 : decode cX7_look 44 = .ok (.aload_n 0, 1) := by decide +kernel
theorem dX7_look_45 : decode cX7_look 45 = .ok (.iload_n 1, 1) := by decide +kernel
theorem dX7_look_46 : decode cX7_look 46 = .ok (.invokevirtual 108, 3) := by decide +kernel
theorem dX7_look_49 : decode cX7_look 49 = .ok (.ifCond .eq 38, 3) := by decide +kernel
theorem dX7_look_52 : decode cX7_look 52 = .ok (.aload_n 0, 1) := by decide +kernel
theorem dX7_look_53 : decode cX7_look 53 = .ok (.iload_n 1, 1) := by decide +kernel
theorem dX7_look_54 : decode cX7_look 54 = .ok (.invokevirtual 85, 3) := by decide +kernel
theorem dX7_look_57 : decode cX7_look 57 = .ok (.aload_n 0, 1) := by decide +kernel
theorem dX7_look_58 : decode cX7_look 58 = .ok (.getfield 29, 3) := by decide +kernel
theorem dX7_look_61 : decode cX7_look 61 = .ok (.iload_n 1, 1) := by decide +kernel
theorem dX7_look_62 : decode cX7_look 62 = .ok (.iaload, 1) := by decide +kernel
theorem dX7_look_63 : decode cX7_look 63 = .ok (.iconst 2, 1) := by decide +kernel
theorem dX7_look_64 : decode cX7_look 64 = .ok (.if_icmp .eq 23, 3) := by decide +kernel
theorem dX7_look_67 : decode cX7_look 67 = .ok (.aload_n 0, 1) := by decide +kernel
theorem dX7_look_68 : decode cX7_look 68 = .ok (.iload_n 1, 1) := by decide +kernel
theorem dX7_look_69 : decode cX7_look 69 = .ok (.invokevirtual 102, 3) := by decide +kernel
theorem dX7_look_72 : decode cX7_look 72 = .ok (.aload_n 0, 1) := by decide +kernel
theorem dX7_look_73 : decode cX7_look 73 = .ok (.iload_n 1, 1) := by decide +kernel
theorem dX7_look_74 : decode cX7_look 74 = .ok (.bipush 11, 2) := by decide +kernel
theorem dX7_look_76 : decode cX7_look 76 = .ok (.iconst 1, 1) := by decide +kernel
theorem dX7_look_77 : decode cX7_look 77 = .ok (.invokevirtual 75, 3) := by decide +kernel
theorem dX7_look_80 : decode cX7_look 80 = .ok (.aload_n 0, 1) := by decide +kernel
theorem dX7_look_81 : decode cX7_look 81 = .ok (.iload_n 1, 1) := by decide +kernel
theorem dX7_look_82 : decode cX7_look 82 = .ok (.iconst 0, 1) := by decide +kernel
theorem dX7_look_83 : decode cX7_look 83 = .ok (.invokevirtual 105, 3) := by decide +kernel
theorem dX7_look_86 : decode cX7_look 86 = .ok (.pop, 1) := by decide +kernel
theorem dX7_look_87 : decode cX7_look 87 = .ok (.iinc 1 1, 3) := by decide +kernel
theorem dX7_look_90 : decode cX7_look 90 = .ok (.goto (-57), 3) := by decide +kernel
theorem dX7_look_93 : decode cX7_look 93 = .ok (.return_, 1) := by decide +kernel
theorem dX7_fade_0 : decode cX7_fade 0 = .ok (.aload_n 0, 1) := by decide +kernel
theorem dX7_fade_1 : decode cX7_fade 1 = .ok (.iload_n 1, 1) := by decide +kernel
theorem dX7_fade_2 : decode cX7_fade 2 = .ok (.iconst 2, 1) := by decide +kernel
theorem dX7_fade_3 : decode cX7_fade 3 = .ok (.invokevirtual 62, 3) := by decide +kernel
theorem dX7_fade_6 : decode cX7_fade 6 = .ok (.istore_n 2, 1) := by decide +kernel
theorem dX7_fade_7 : decode cX7_fade 7 = .ok (.iload_n 2, 1) := by decide +kernel
theorem dX7_fade_8 : decode cX7_fade 8 = .ok (.ifCond .eq 19, 3) := by decide +kernel
theorem dX7_fade_11 : decode cX7_fade 11 = .ok (.iload_n 2, 1) := by decide +kernel
theorem dX7_fade_12 : decode cX7_fade 12 = .ok (.iconst 2, 1) := by decide +kernel
theorem dX7_fade_13 : decode cX7_fade 13 = .ok (.if_icmp .ne 15, 3) := by decide +kernel
theorem dX7_fade_16 : decode cX7_fade 16 = .ok (.aload_n 0, 1) := by decide +kernel
theorem dX7_fade_17 : decode cX7_fade 17 = .ok (.iload_n 1, 1) := by decide +kernel
theorem dX7_fade_18 : decode cX7_fade 18 = .ok (.bipush 12, 2) := by decide +kernel
theorem dX7_fade_20 : decode cX7_fade 20 = .ok (.invokevirtual 62, 3) := by decide +kernel
theorem dX7_fade_23 : decode cX7_fade 23 = .ok (.iconst 1, 1) := by decide +kernel
theorem dX7_fade_24 : decode cX7_fade 24 = .ok (.if_icmp .ne 4, 3) := by decide +kernel
theorem dX7_fade_27 : decode cX7_fade 27 = .ok (.return_, 1) := by decide +kernel
theorem dX7_fade_28 : decode cX7_fade 28 = .ok (.aload_n 0, 1) := by decide +kernel
theorem dX7_fade_29 : decode cX7_fade 29 = .ok (.iload_n 1, 1) := by decide +kernel
theorem dX7_fade_30 : decode cX7_fade 30 = .ok (.iconst 4, 1) := by decide +kernel
theorem dX7_fade_31 : decode cX7_fade 31 = .ok (.iconst (-1), 1) := by decide +kernel
theorem dX7_fade_32 : decode cX7_fade 32 = .ok (.invokevirtual 79, 3) := by decide +kernel
theorem dX7_fade_35 : decode cX7_fade 35 = .ok (.aload_n 0, 1) := by decide +kernel
theorem dX7_fade_36 : decode cX7_fade 36 = .ok (.iload_n 1, 1) := by decide +kernel
theorem dX7_fade_37 : decode cX7_fade 37 = .ok (.iconst 4, 1) := by decide +kernel
theorem dX7_fade_38 : decode cX7_fade 38 = .ok (.invokevirtual 62, 3) := by decide +kernel
theorem dX7_fade_41 : decode cX7_fade 41 = .ok (.ifCond .ne 58, 3) := by decide +kernel
theorem dX7_fade_44 : decode cX7_fade 44 = .ok (.iload_n 2, 1) := by decide +kernel
theorem dX7_fade_45 : decode cX7_fade 45 = .ok (.iconst 2, 1) := by decide +kernel
theorem dX7_fade_46 : decode cX7_fade 46 = .ok (.if_icmp .ne 16, 3) := by decide +kernel
theorem dX7_fade_49 : decode cX7_fade 49 = .ok (.aload_n 0, 1) := by decide +kernel
theorem dX7_fade_50 : decode cX7_fade 50 = .ok (.getfield 7, 3) := by decide +kernel
theorem dX7_fade_53 : decode cX7_fade 53 = .ok (.iconst 3, 1) := by decide +kernel
theorem dX7_fade_54 : decode cX7_fade 54 = .ok (.iaload, 1) := by decide +kernel
theorem dX7_fade_55 : decode cX7_fade 55 = .ok (.ifCond .le 7, 3) := by decide +kernel
theorem dX7_fade_58 : decode cX7_fade 58 = .ok (.iconst 1, 1) := by decide +kernel
theorem dX7_fade_59 : decode cX7_fade 59 = .ok (.goto 4, 3) := by decide +kernel
theorem dX7_fade_62 : decode cX7_fade 62 = .ok (.iconst 0, 1) := by decide +kernel
theorem dX7_fade_63 : decode cX7_fade 63 = .ok (.istore_n 3, 1) := by decide +kernel
theorem dX7_fade_64 : decode cX7_fade 64 = .ok (.aload_n 0, 1) := by decide +kernel
theorem dX7_fade_65 : decode cX7_fade 65 = .ok (.iload_n 1, 1) := by decide +kernel
theorem dX7_fade_66 : decode cX7_fade 66 = .ok (.iconst 2, 1) := by decide +kernel
theorem dX7_fade_67 : decode cX7_fade 67 = .ok (.iload_n 3, 1) := by decide +kernel
theorem dX7_fade_68 : decode cX7_fade 68 = .ok (.ifCond .eq 7, 3) := by decide +kernel
theorem dX7_fade_71 : decode cX7_fade 71 = .ok (.iconst 1, 1) := by decide +kernel
theorem dX7_fade_72 : decode cX7_fade 72 = .ok (.goto 4, 3) := by decide +kernel
theorem dX7_fade_75 : decode cX7_fade 75 = .ok (.iconst 0, 1) := by decide +kernel
theorem dX7_fade_76 : decode cX7_fade 76 = .ok (.invokevirtual 75, 3) := by decide +kernel
theorem dX7_fade_79 : decode cX7_fade 79 = .ok (.aload_n 0, 1) := by decide +kernel
theorem dX7_fade_80 : decode cX7_fade 80 = .ok (.iload_n 1, 1) := by decide +kernel
theorem dX7_fade_81 : decode cX7_fade 81 = .ok (.iconst 4, 1) := by decide +kernel
theorem dX7_fade_82 : decode cX7_fade 82 = .ok (.iload_n 3, 1) := by decide +kernel
theorem dX7_fade_83 : decode cX7_fade 83 = .ok (.ifCond .eq 12, 3) := by decide +kernel
theorem dX7_fade_86 : decode cX7_fade 86 = .ok (.aload_n 0, 1) := by decide +kernel
theorem dX7_fade_87 : decode cX7_fade 87 = .ok (.getfield 7, 3) := by decide +kernel
theorem dX7_fade_90 : decode cX7_fade 90 = .ok (.iconst 3, 1) := by decide +kernel
theorem dX7_fade_91 : decode cX7_fade 91 = .ok (.iaload, 1) := by decide +kernel
theorem dX7_fade_92 : decode cX7_fade 92 = .ok (.goto 4, 3) := by decide +kernel
theorem dX7_fade_95 : decode cX7_fade 95 = .ok (.iconst 0, 1) := by decide +kernel
theorem dX7_fade_96 : decode cX7_fade 96 = .ok (.invokevirtual 75, 3) := by decide +kernel
theorem dX7_fade_99 : decode cX7_fade 99 = .ok (.return_, 1) := by decide +kernel
theorem dX7_account_0 : decode cX7_account 0 = .ok (.iconst 0, 1) := by decide +kernel
theorem dX7_account_1 : decode cX7_account 1 = .ok (.istore_n 1, 1) := by decide +kernel
theorem dX7_account_2 : decode cX7_account 2 = .ok (.iload_n 1, 1) := by decide +kernel
theorem dX7_account_3 : decode cX7_account 3 = .ok (.aload_n 0, 1) := by decide +kernel
theorem dX7_account_4 : decode cX7_account 4 = .ok (.getfield 7, 3) := by decide +kernel
theorem dX7_account_7 : decode cX7_account 7 = .ok (.bipush 7, 2) := by decide +kernel
theorem dX7_account_9 : decode cX7_account 9 = .ok (.iaload, 1) := by decide +kernel
theorem dX7_account_10 : decode cX7_account 10 = .ok (.if_icmp .ge 45, 3) := by decide +kernel
theorem dX7_account_13 : decode cX7_account 13 = .ok (.aload_n 0, 1) := by decide +kernel
theorem dX7_account_14 : decode cX7_account 14 = .ok (.iload_n 1, 1) := by decide +kernel
theorem dX7_account_15 : decode cX7_account 15 = .ok (.bipush 7, 2) := by decide +kernel
theorem dX7_account_17 : decode cX7_account 17 = .ok (.aload_n 0, 1) := by decide +kernel
theorem dX7_account_18 : decode cX7_account 18 = .ok (.iload_n 1, 1) := by decide +kernel
theorem dX7_account_19 : decode cX7_account 19 = .ok (.iconst 2, 1) := by decide +kernel
theorem dX7_account_20 : decode cX7_account 20 = .ok (.invokevirtual 62, 3) := by decide +kernel
theorem dX7_account_23 : decode cX7_account 23 = .ok (.iconst 2, 1) := by decide +kernel
theorem dX7_account_24 : decode cX7_account 24 = .ok (.if_icmp .ne 7, 3) := by decide +kernel
theorem dX7_account_27 : decode cX7_account 27 = .ok (.iconst 4, 1) := by decide +kernel
theorem dX7_account_28 : decode cX7_account 28 = .ok (.goto 18, 3) := by decide +kernel
theorem dX7_account_31 : decode cX7_account 31 = .ok (.aload_n 0, 1) := by decide +kernel
theorem dX7_account_32 : decode cX7_account 32 = .ok (.iload_n 1, 1) := by decide +kernel
theorem dX7_account_33 : decode cX7_account 33 = .ok (.iconst 2, 1) := by decide +kernel
theorem dX7_account_34 : decode cX7_account 34 = .ok (.invokevirtual 62, 3) := by decide +kernel
theorem dX7_account_37 : decode cX7_account 37 = .ok (.iconst 1, 1) := by decide +kernel
theorem dX7_account_38 : decode cX7_account 38 = .ok (.if_icmp .ne 7, 3) := by decide +kernel
theorem dX7_account_41 : decode cX7_account 41 = .ok (.iconst 1, 1) := by decide +kernel
theorem dX7_account_42 : decode cX7_account 42 = .ok (.goto 4, 3) := by decide +kernel
theorem dX7_account_45 : decode cX7_account 45 = .ok (.iconst 0, 1) := by decide +kernel
theorem dX7_account_46 : decode cX7_account 46 = .ok (.invokevirtual 79, 3) := by decide +kernel
theorem dX7_account_49 : decode cX7_account 49 = .ok (.iinc 1 1, 3) := by decide +kernel
theorem dX7_account_52 : decode cX7_account 52 = .ok (.goto (-50), 3) := by decide +kernel
theorem dX7_account_55 : decode cX7_account 55 = .ok (.iconst 0, 1) := by decide +kernel
theorem dX7_account_56 : decode cX7_account 56 = .ok (.istore_n 1, 1) := by decide +kernel
theorem dX7_account_57 : decode cX7_account 57 = .ok (.iload_n 1, 1) := by decide +kernel
theorem dX7_account_58 : decode cX7_account 58 = .ok (.aload_n 0, 1) := by decide +kernel
theorem dX7_account_59 : decode cX7_account 59 = .ok (.getfield 7, 3) := by decide +kernel
theorem dX7_account_62 : decode cX7_account 62 = .ok (.bipush 9, 2) := by decide +kernel
theorem dX7_account_64 : decode cX7_account 64 = .ok (.iaload, 1) := by decide +kernel
theorem dX7_account_65 : decode cX7_account 65 = .ok (.if_icmp .ge 67, 3) := by decide +kernel
theorem dX7_account_68 : decode cX7_account 68 = .ok (.aload_n 0, 1) := by decide +kernel
theorem dX7_account_69 : decode cX7_account 69 = .ok (.iload_n 1, 1) := by decide +kernel
theorem dX7_account_70 : decode cX7_account 70 = .ok (.invokevirtual 95, 3) := by decide +kernel
theorem dX7_account_73 : decode cX7_account 73 = .ok (.ifCond .eq 53, 3) := by decide +kernel
theorem dX7_account_76 : decode cX7_account 76 = .ok (.aload_n 0, 1) := by decide +kernel
theorem dX7_account_77 : decode cX7_account 77 = .ok (.aload_n 0, 1) := by decide +kernel
theorem dX7_account_78 : decode cX7_account 78 = .ok (.iload_n 1, 1) := by decide +kernel
theorem dX7_account_79 : decode cX7_account 79 = .ok (.iconst 0, 1) := by decide +kernel
theorem dX7_account_80 : decode cX7_account 80 = .ok (.invokevirtual 48, 3) := by decide +kernel
theorem dX7_account_83 : decode cX7_account 83 = .ok (.invokevirtual 111, 3) := by decide +kernel
theorem dX7_account_86 : decode cX7_account 86 = .ok (.ifCond .ne 40, 3) := by decide +kernel
theorem dX7_account_89 : decode cX7_account 89 = .ok (.aload_n 0, 1) := by decide +kernel
theorem dX7_account_90 : decode cX7_account 90 = .ok (.iload_n 1, 1) := by decide +kernel
theorem dX7_account_91 : decode cX7_account 91 = .ok (.iconst 5, 1) := by decide +kernel
theorem dX7_account_92 : decode cX7_account 92 = .ok (.aload_n 0, 1) := by decide +kernel
theorem dX7_account_93 : decode cX7_account 93 = .ok (.iload_n 1, 1) := by decide +kernel
theorem dX7_account_94 : decode cX7_account 94 = .ok (.iconst 5, 1) := by decide +kernel
theorem dX7_account_95 : decode cX7_account 95 = .ok (.invokevirtual 48, 3) := by decide +kernel
theorem dX7_account_98 : decode cX7_account 98 = .ok (.iconst 1, 1) := by decide +kernel
theorem dX7_account_99 : decode cX7_account 99 = .ok (.iadd, 1) := by decide +kernel
theorem dX7_account_100 : decode cX7_account 100 = .ok (.invokevirtual 89, 3) := by decide +kernel
theorem dX7_account_103 : decode cX7_account 103 = .ok (.aload_n 0, 1) := by decide +kernel
theorem dX7_account_104 : decode cX7_account 104 = .ok (.aload_n 0, 1) := by decide +kernel
theorem dX7_account_105 : decode cX7_account 105 = .ok (.iload_n 1, 1) := by decide +kernel
theorem dX7_account_106 : decode cX7_account 106 = .ok (.iconst 0, 1) := by decide +kernel
theorem dX7_account_107 : decode cX7_account 107 = .ok (.invokevirtual 48, 3) := by decide +kernel
theorem dX7_account_110 : decode cX7_account 110 = .ok (.invokevirtual 115, 3) := by decide +kernel
theorem dX7_account_113 : decode cX7_account 113 = .ok (.istore_n 2, 1) := by decide +kernel
theorem dX7_account_114 : decode cX7_account 114 = .ok (.iload_n 2, 1) := by decide +kernel
theorem dX7_account_115 : decode cX7_account 115 = .ok (.ifCond .lt 11, 3) := by decide +kernel
theorem dX7_account_118 : decode cX7_account 118 = .ok (.aload_n 0, 1) := by decide +kernel
theorem dX7_account_119 : decode cX7_account 119 = .ok (.iload_n 2, 1) := by decide +kernel
theorem dX7_account_120 : decode cX7_account 120 = .ok (.bipush 10, 2) := by decide +kernel
theorem dX7_account_122 : decode cX7_account 122 = .ok (.iconst 1, 1) := by decide +kernel
theorem dX7_account_123 : decode cX7_account 123 = .ok (.invokevirtual 79, 3) := by decide +kernel
theorem dX7_account_126 : decode cX7_account 126 = .ok (.iinc 1 1, 3) := by decide +kernel
theorem dX7_account_129 : decode cX7_account 129 = .ok (.goto (-72), 3) := by decide +kernel
theorem dX7_account_132 : decode cX7_account 132 = .ok (.iconst 0, 1) := by decide +kernel
theorem dX7_account_133 : decode cX7_account 133 = .ok (.istore_n 1, 1) := by decide +kernel
theorem dX7_account_134 : decode cX7_account 134 = .ok (.iload_n 1, 1) := by decide +kernel
theorem dX7_account_135 : decode cX7_account 135 = .ok (.aload_n 0, 1) := by decide +kernel
theorem dX7_account_136 : decode cX7_account 136 = .ok (.getfield 7, 3) := by decide +kernel
theorem dX7_account_139 : decode cX7_account 139 = .ok (.bipush 8, 2) := by decide +kernel
theorem dX7_account_141 : decode cX7_account 141 = .ok (.iaload, 1) := by decide +kernel
theorem dX7_account_142 : decode cX7_account 142 = .ok (.if_icmp .ge 39, 3) := by decide +kernel
theorem dX7_account_145 : decode cX7_account 145 = .ok (.aload_n 0, 1) := by decide +kernel
theorem dX7_account_146 : decode cX7_account 146 = .ok (.getfield 7, 3) := by decide +kernel
theorem dX7_account_149 : decode cX7_account 149 = .ok (.sipush 218, 3) := by decide +kernel
theorem dX7_account_152 : decode cX7_account 152 = .ok (.iconst 3, 1) := by decide +kernel
theorem dX7_account_153 : decode cX7_account 153 = .ok (.iload_n 1, 1) := by decide +kernel
theorem dX7_account_154 : decode cX7_account 154 = .ok (.imul, 1) := by decide +kernel
theorem dX7_account_155 : decode cX7_account 155 = .ok (.iadd, 1) := by decide +kernel
theorem dX7_account_156 : decode cX7_account 156 = .ok (.iconst 1, 1) := by decide +kernel
theorem dX7_account_157 : decode cX7_account 157 = .ok (.iadd, 1) := by decide +kernel
theorem dX7_account_158 : decode cX7_account 158 = .ok (.dup2, 1) := by decide +kernel
theorem dX7_account_159 : decode cX7_account 159 = .ok (.iaload, 1) := by decide +kernel
theorem dX7_account_160 : decode cX7_account 160 = .ok (.aload_n 0, 1) := by decide +kernel
theorem dX7_account_161 : decode cX7_account 161 = .ok (.iload_n 1, 1) := by decide +kernel
theorem dX7_account_162 : decode cX7_account 162 = .ok (.invokevirtual 118, 3) := by decide +kernel
theorem dX7_account_165 : decode cX7_account 165 = .ok (.ifCond .eq 7, 3) := by decide +kernel
theorem dX7_account_168 : decode cX7_account 168 = .ok (.iconst 1, 1) := by decide +kernel
theorem dX7_account_169 : decode cX7_account 169 = .ok (.goto 4, 3) := by decide +kernel
theorem dX7_account_172 : decode cX7_account 172 = .ok (.iconst 0, 1) := by decide +kernel
theorem dX7_account_173 : decode cX7_account 173 = .ok (.iadd, 1) := by decide +kernel
theorem dX7_account_174 : decode cX7_account 174 = .ok (.iastore, 1) := by decide +kernel
theorem dX7_account_175 : decode cX7_account 175 = .ok (.iinc 1 1, 3) := by decide +kernel
theorem dX7_account_178 : decode cX7_account 178 = .ok (.goto (-44), 3) := by decide +kernel
theorem dX7_account_181 : decode cX7_account 181 = .ok (.return_, 1) := by decide +kernel
theorem dX7_pass_0 : decode cX7_pass 0 = .ok (.iconst 0, 1) := by decide +kernel
theorem dX7_pass_1 : decode cX7_pass 1 = .ok (.istore_n 1, 1) := by decide +kernel
theorem dX7_pass_2 : decode cX7_pass 2 = .ok (.iload_n 1, 1) := by decide +kernel
theorem dX7_pass_3 : decode cX7_pass 3 = .ok (.aload_n 0, 1) := by decide +kernel
theorem dX7_pass_4 : decode cX7_pass 4 = .ok (.getfield 7, 3) := by decide +kernel
theorem dX7_pass_7 : decode cX7_pass 7 = .ok (.bipush 7, 2) := by decide +kernel
theorem dX7_pass_9 : decode cX7_pass 9 = .ok (.iaload, 1) := by decide +kernel
theorem dX7_pass_10 : decode cX7_pass 10 = .ok (.if_icmp .ge 25, 3) := by decide +kernel
theorem dX7_pass_13 : decode cX7_pass 13 = .ok (.aload_n 0, 1) := by decide +kernel
theorem dX7_pass_14 : decode cX7_pass 14 = .ok (.iload_n 1, 1) := by decide +kernel
theorem dX7_pass_15 : decode cX7_pass 15 = .ok (.bipush 11, 2) := by decide +kernel
theorem dX7_pass_17 : decode cX7_pass 17 = .ok (.iconst 0, 1) := by decide +kernel
theorem dX7_pass_18 : decode cX7_pass 18 = .ok (.invokevirtual 75, 3) := by decide +kernel
theorem dX7_pass_21 : decode cX7_pass 21 = .ok (.aload_n 0, 1) := by decide +kernel
theorem dX7_pass_22 : decode cX7_pass 22 = .ok (.iload_n 1, 1) := by decide +kernel
theorem dX7_pass_23 : decode cX7_pass 23 = .ok (.bipush 12, 2) := by decide +kernel
theorem dX7_pass_25 : decode cX7_pass 25 = .ok (.iconst 0, 1) := by decide +kernel
theorem dX7_pass_26 : decode cX7_pass 26 = .ok (.invokevirtual 75, 3) := by decide +kernel
theorem dX7_pass_29 : decode cX7_pass 29 = .ok (.iinc 1 1, 3) := by decide +kernel
theorem dX7_pass_32 : decode cX7_pass 32 = .ok (.goto (-30), 3) := by decide +kernel
theorem dX7_pass_35 : decode cX7_pass 35 = .ok (.iconst 0, 1) := by decide +kernel
theorem dX7_pass_36 : decode cX7_pass 36 = .ok (.istore_n 1, 1) := by decide +kernel
theorem dX7_pass_37 : decode cX7_pass 37 = .ok (.iload_n 1, 1) := by decide +kernel
theorem dX7_pass_38 : decode cX7_pass 38 = .ok (.aload_n 0, 1) := by decide +kernel
theorem dX7_pass_39 : decode cX7_pass 39 = .ok (.getfield 7, 3) := by decide +kernel
theorem dX7_pass_42 : decode cX7_pass 42 = .ok (.bipush 9, 2) := by decide +kernel
theorem dX7_pass_44 : decode cX7_pass 44 = .ok (.iaload, 1) := by decide +kernel
theorem dX7_pass_45 : decode cX7_pass 45 = .ok (.if_icmp .ge 14, 3) := by decide +kernel
theorem dX7_pass_48 : decode cX7_pass 48 = .ok (.aload_n 0, 1) := by decide +kernel
theorem dX7_pass_49 : decode cX7_pass 49 = .ok (.iload_n 1, 1) := by decide +kernel
theorem dX7_pass_50 : decode cX7_pass 50 = .ok (.invokevirtual 121, 3) := by decide +kernel
theorem dX7_pass_53 : decode cX7_pass 53 = .ok (.iinc 1 1, 3) := by decide +kernel
theorem dX7_pass_56 : decode cX7_pass 56 = .ok (.goto (-19), 3) := by decide +kernel
theorem dX7_pass_59 : decode cX7_pass 59 = .ok (.aload_n 0, 1) := by decide +kernel
theorem dX7_pass_60 : decode cX7_pass 60 = .ok (.invokevirtual 124, 3) := by decide +kernel
theorem dX7_pass_63 : decode cX7_pass 63 = .ok (.aload_n 0, 1) := by decide +kernel
theorem dX7_pass_64 : decode cX7_pass 64 = .ok (.invokevirtual 127, 3) := by decide +kernel
theorem dX7_pass_67 : decode cX7_pass 67 = .ok (.iconst 0, 1) := by decide +kernel
theorem dX7_pass_68 : decode cX7_pass 68 = .ok (.istore_n 1, 1) := by decide +kernel
theorem dX7_pass_69 : decode cX7_pass 69 = .ok (.iload_n 1, 1) := by decide +kernel
theorem dX7_pass_70 : decode cX7_pass 70 = .ok (.aload_n 0, 1) := by decide +kernel
theorem dX7_pass_71 : decode cX7_pass 71 = .ok (.getfield 7, 3) := by decide +kernel
theorem dX7_pass_74 : decode cX7_pass 74 = .ok (.bipush 7, 2) := by decide +kernel
theorem dX7_pass_76 : decode cX7_pass 76 = .ok (.iaload, 1) := by decide +kernel
theorem dX7_pass_77 : decode cX7_pass 77 = .ok (.if_icmp .ge 14, 3) := by decide +kernel
theorem dX7_pass_80 : decode cX7_pass 80 = .ok (.aload_n 0, 1) := by decide +kernel
theorem dX7_pass_81 : decode cX7_pass 81 = .ok (.iload_n 1, 1) := by decide +kernel
theorem dX7_pass_82 : decode cX7_pass 82 = .ok (.invokevirtual 130, 3) := by decide +kernel
theorem dX7_pass_85 : decode cX7_pass 85 = .ok (.iinc 1 1, 3) := by decide +kernel
theorem dX7_pass_88 : decode cX7_pass 88 = .ok (.goto (-19), 3) := by decide +kernel
theorem dX7_pass_91 : decode cX7_pass 91 = .ok (.aload_n 0, 1) := by decide +kernel
theorem dX7_pass_92 : decode cX7_pass 92 = .ok (.invokevirtual 133, 3) := by decide +kernel
theorem dX7_pass_95 : decode cX7_pass 95 = .ok (.aload_n 0, 1) := by decide +kernel
theorem dX7_pass_96 : decode cX7_pass 96 = .ok (.getfield 7, 3) := by decide +kernel
theorem dX7_pass_99 : decode cX7_pass 99 = .ok (.bipush 6, 2) := by decide +kernel
theorem dX7_pass_101 : decode cX7_pass 101 = .ok (.dup2, 1) := by decide +kernel
theorem dX7_pass_102 : decode cX7_pass 102 = .ok (.iaload, 1) := by decide +kernel
theorem dX7_pass_103 : decode cX7_pass 103 = .ok (.iconst 1, 1) := by decide +kernel
theorem dX7_pass_104 : decode cX7_pass 104 = .ok (.iadd, 1) := by decide +kernel
theorem dX7_pass_105 : decode cX7_pass 105 = .ok (.iastore, 1) := by decide +kernel
theorem dX7_pass_106 : decode cX7_pass 106 = .ok (.return_, 1) := by decide +kernel
theorem dX7_highest_0 : decode cX7_highest 0 = .ok (.iload_n 0, 1) := by decide +kernel
theorem dX7_highest_1 : decode cX7_highest 1 = .ok (.tableswitch 51 0 5 #[39, 42, 51, 51, 45, 48], 39) := by decide +kernel
theorem dX7_highest_40 : decode cX7_highest 40 = .ok (.bipush 20, 2) := by decide +kernel
theorem dX7_highest_42 : decode cX7_highest 42 = .ok (.ireturn, 1) := by decide +kernel
theorem dX7_highest_43 : decode cX7_highest 43 = .ok (.bipush 60, 2) := by decide +kernel
theorem dX7_highest_45 : decode cX7_highest 45 = .ok (.ireturn, 1) := by decide +kernel
theorem dX7_highest_46 : decode cX7_highest 46 = .ok (.bipush 10, 2) := by decide +kernel
theorem dX7_highest_48 : decode cX7_highest 48 = .ok (.ireturn, 1) := by decide +kernel
theorem dX7_highest_49 : decode cX7_highest 49 = .ok (.bipush 6, 2) := by decide +kernel
theorem dX7_highest_51 : decode cX7_highest 51 = .ok (.ireturn, 1) := by decide +kernel
theorem dX7_highest_52 : decode cX7_highest 52 = .ok (.bipush 50, 2) := by decide +kernel
theorem dX7_highest_54 : decode cX7_highest 54 = .ok (.ireturn, 1) := by decide +kernel
theorem dX7_set_0 : decode cX7_set 0 = .ok (.iload_n 1, 1) := by decide +kernel
theorem dX7_set_1 : decode cX7_set 1 = .ok (.iconst 0, 1) := by decide +kernel
theorem dX7_set_2 : decode cX7_set 2 = .ok (.iconst 5, 1) := by decide +kernel
theorem dX7_set_3 : decode cX7_set 3 = .ok (.invokestatic 44, 3) := by decide +kernel
theorem dX7_set_6 : decode cX7_set 6 = .ok (.ifCond .eq 34, 3) := by decide +kernel
theorem dX7_set_9 : decode cX7_set 9 = .ok (.iload_n 2, 1) := by decide +kernel
theorem dX7_set_10 : decode cX7_set 10 = .ok (.iload_n 1, 1) := by decide +kernel
theorem dX7_set_11 : decode cX7_set 11 = .ok (.iconst 1, 1) := by decide +kernel
theorem dX7_set_12 : decode cX7_set 12 = .ok (.if_icmp .eq 13, 3) := by decide +kernel
theorem dX7_set_15 : decode cX7_set 15 = .ok (.iload_n 1, 1) := by decide +kernel
theorem dX7_set_16 : decode cX7_set 16 = .ok (.iconst 2, 1) := by decide +kernel
theorem dX7_set_17 : decode cX7_set 17 = .ok (.if_icmp .eq 8, 3) := by decide +kernel
theorem dX7_set_20 : decode cX7_set 20 = .ok (.iload_n 1, 1) := by decide +kernel
theorem dX7_set_21 : decode cX7_set 21 = .ok (.iconst 4, 1) := by decide +kernel
theorem dX7_set_22 : decode cX7_set 22 = .ok (.if_icmp .ne 7, 3) := by decide +kernel
theorem dX7_set_25 : decode cX7_set 25 = .ok (.iconst 1, 1) := by decide +kernel
theorem dX7_set_26 : decode cX7_set 26 = .ok (.goto 4, 3) := by decide +kernel
theorem dX7_set_29 : decode cX7_set 29 = .ok (.iconst 0, 1) := by decide +kernel
theorem dX7_set_30 : decode cX7_set 30 = .ok (.iload_n 1, 1) := by decide +kernel
theorem dX7_set_31 : decode cX7_set 31 = .ok (.invokestatic 136, 3) := by decide +kernel
theorem dX7_set_34 : decode cX7_set 34 = .ok (.invokestatic 44, 3) := by decide +kernel
theorem dX7_set_37 : decode cX7_set 37 = .ok (.ifCond .ne 6, 3) := by decide +kernel
theorem dX7_set_40 : decode cX7_set 40 = .ok (.bipush (-2), 2) := by decide +kernel
theorem dX7_set_42 : decode cX7_set 42 = .ok (.ireturn, 1) := by decide +kernel
theorem dX7_set_43 : decode cX7_set 43 = .ok (.aload_n 0, 1) := by decide +kernel
theorem dX7_set_44 : decode cX7_set 44 = .ok (.invokevirtual 59, 3) := by decide +kernel
theorem dX7_set_47 : decode cX7_set 47 = .ok (.aload_n 0, 1) := by decide +kernel
theorem dX7_set_48 : decode cX7_set 48 = .ok (.getfield 7, 3) := by decide +kernel
theorem dX7_set_51 : decode cX7_set 51 = .ok (.iload_n 1, 1) := by decide +kernel
theorem dX7_set_52 : decode cX7_set 52 = .ok (.iaload, 1) := by decide +kernel
theorem dX7_set_53 : decode cX7_set 53 = .ok (.istore_n 3, 1) := by decide +kernel
theorem dX7_set_54 : decode cX7_set 54 = .ok (.aload_n 0, 1) := by decide +kernel
theorem dX7_set_55 : decode cX7_set 55 = .ok (.getfield 7, 3) := by decide +kernel
theorem dX7_set_58 : decode cX7_set 58 = .ok (.iload_n 1, 1) := by decide +kernel
theorem dX7_set_59 : decode cX7_set 59 = .ok (.iload_n 2, 1) := by decide +kernel
theorem dX7_set_60 : decode cX7_set 60 = .ok (.iastore, 1) := by decide +kernel
theorem dX7_set_61 : decode cX7_set 61 = .ok (.iload_n 3, 1) := by decide +kernel
theorem dX7_set_62 : decode cX7_set 62 = .ok (.ireturn, 1) := by decide +kernel
theorem dX7_lampAt_0 : decode cX7_lampAt 0 = .ok (.iconst 0, 1) := by decide +kernel
theorem dX7_lampAt_1 : decode cX7_lampAt 1 = .ok (.istore_n 2, 1) := by decide +kernel
theorem dX7_lampAt_2 : decode cX7_lampAt 2 = .ok (.iload_n 2, 1) := by decide +kernel
theorem dX7_lampAt_3 : decode cX7_lampAt 3 = .ok (.aload_n 0, 1) := by decide +kernel
theorem dX7_lampAt_4 : decode cX7_lampAt 4 = .ok (.getfield 7, 3) := by decide +kernel
theorem dX7_lampAt_7 : decode cX7_lampAt 7 = .ok (.bipush 7, 2) := by decide +kernel
theorem dX7_lampAt_9 : decode cX7_lampAt 9 = .ok (.iaload, 1) := by decide +kernel
theorem dX7_lampAt_10 : decode cX7_lampAt 10 = .ok (.if_icmp .ge 19, 3) := by decide +kernel
theorem dX7_lampAt_13 : decode cX7_lampAt 13 = .ok (.aload_n 0, 1) := by decide +kernel
theorem dX7_lampAt_14 : decode cX7_lampAt 14 = .ok (.iload_n 2, 1) := by decide +kernel
theorem dX7_lampAt_15 : decode cX7_lampAt 15 = .ok (.iconst 0, 1) := by decide +kernel
theorem dX7_lampAt_16 : decode cX7_lampAt 16 = .ok (.invokevirtual 62, 3) := by decide +kernel
theorem dX7_lampAt_19 : decode cX7_lampAt 19 = .ok (.iload_n 1, 1) := by decide +kernel
theorem dX7_lampAt_20 : decode cX7_lampAt 20 = .ok (.if_icmp .eq 9, 3) := by decide +kernel
theorem dX7_lampAt_23 : decode cX7_lampAt 23 = .ok (.iinc 2 1, 3) := by decide +kernel
theorem dX7_lampAt_26 : decode cX7_lampAt 26 = .ok (.goto (-24), 3) := by decide +kernel
theorem dX7_lampAt_29 : decode cX7_lampAt 29 = .ok (.iload_n 2, 1) := by decide +kernel
theorem dX7_lampAt_30 : decode cX7_lampAt 30 = .ok (.aload_n 0, 1) := by decide +kernel
theorem dX7_lampAt_31 : decode cX7_lampAt 31 = .ok (.getfield 7, 3) := by decide +kernel
theorem dX7_lampAt_34 : decode cX7_lampAt 34 = .ok (.bipush 7, 2) := by decide +kernel
theorem dX7_lampAt_36 : decode cX7_lampAt 36 = .ok (.iaload, 1) := by decide +kernel
theorem dX7_lampAt_37 : decode cX7_lampAt 37 = .ok (.if_icmp .ge 7, 3) := by decide +kernel
theorem dX7_lampAt_40 : decode cX7_lampAt 40 = .ok (.iload_n 2, 1) := by decide +kernel
theorem dX7_lampAt_41 : decode cX7_lampAt 41 = .ok (.goto 5, 3) := by decide +kernel
theorem dX7_lampAt_44 : decode cX7_lampAt 44 = .ok (.bipush (-6), 2) := by decide +kernel
theorem dX7_lampAt_46 : decode cX7_lampAt 46 = .ok (.ireturn, 1) := by decide +kernel
theorem dX7_lamp_0 : decode cX7_lamp 0 = .ok (.iload_n 1, 1) := by decide +kernel
theorem dX7_lamp_1 : decode cX7_lamp 1 = .ok (.invokestatic 139, 3) := by decide +kernel
theorem dX7_lamp_4 : decode cX7_lamp 4 = .ok (.ifCond .eq 13, 3) := by decide +kernel
theorem dX7_lamp_7 : decode cX7_lamp 7 = .ok (.iload_n 2, 1) := by decide +kernel
theorem dX7_lamp_8 : decode cX7_lamp 8 = .ok (.iconst 1, 1) := by decide +kernel
theorem dX7_lamp_9 : decode cX7_lamp 9 = .ok (.bipush 30, 2) := by decide +kernel
theorem dX7_lamp_11 : decode cX7_lamp 11 = .ok (.invokestatic 44, 3) := by decide +kernel
theorem dX7_lamp_14 : decode cX7_lamp 14 = .ok (.ifCond .ne 6, 3) := by decide +kernel
theorem dX7_lamp_17 : decode cX7_lamp 17 = .ok (.bipush (-2), 2) := by decide +kernel
theorem dX7_lamp_19 : decode cX7_lamp 19 = .ok (.ireturn, 1) := by decide +kernel
theorem dX7_lamp_20 : decode cX7_lamp 20 = .ok (.aload_n 0, 1) := by decide +kernel
theorem dX7_lamp_21 : decode cX7_lamp 21 = .ok (.getfield 7, 3) := by decide +kernel
theorem dX7_lamp_24 : decode cX7_lamp 24 = .ok (.bipush 7, 2) := by decide +kernel
theorem dX7_lamp_26 : decode cX7_lamp 26 = .ok (.iaload, 1) := by decide +kernel
theorem dX7_lamp_27 : decode cX7_lamp 27 = .ok (.bipush 16, 2) := by decide +kernel
theorem dX7_lamp_29 : decode cX7_lamp 29 = .ok (.if_icmp .ne 6, 3) := by decide +kernel
theorem dX7_lamp_32 : decode cX7_lamp 32 = .ok (.bipush (-4), 2) := by decide +kernel
theorem dX7_lamp_34 : decode cX7_lamp 34 = .ok (.ireturn, 1) := by decide +kernel
theorem dX7_lamp_35 : decode cX7_lamp 35 = .ok (.aload_n 0, 1) := by decide +kernel
theorem dX7_lamp_36 : decode cX7_lamp 36 = .ok (.iload_n 1, 1) := by decide +kernel
theorem dX7_lamp_37 : decode cX7_lamp 37 = .ok (.invokevirtual 142, 3) := by decide +kernel
theorem dX7_lamp_40 : decode cX7_lamp 40 = .ok (.ifCond .lt 6, 3) := by decide +kernel
theorem dX7_lamp_43 : decode cX7_lamp 43 = .ok (.bipush (-5), 2) := by decide +kernel
theorem dX7_lamp_45 : decode cX7_lamp 45 = .ok (.ireturn, 1) := by decide +kernel
theorem dX7_lamp_46 : decode cX7_lamp 46 = .ok (.aload_n 0, 1) := by decide +kernel
theorem dX7_lamp_47 : decode cX7_lamp 47 = .ok (.invokevirtual 59, 3) := by decide +kernel
theorem dX7_lamp_50 : decode cX7_lamp 50 = .ok (.aload_n 0, 1) := by decide +kernel
theorem dX7_lamp_51 : decode cX7_lamp 51 = .ok (.aload_n 0, 1) := by decide +kernel
theorem dX7_lamp_52 : decode cX7_lamp 52 = .ok (.getfield 7, 3) := by decide +kernel
theorem dX7_lamp_55 : decode cX7_lamp 55 = .ok (.bipush 7, 2) := by decide +kernel
theorem dX7_lamp_57 : decode cX7_lamp 57 = .ok (.iaload, 1) := by decide +kernel
theorem dX7_lamp_58 : decode cX7_lamp 58 = .ok (.iconst 0, 1) := by decide +kernel
theorem dX7_lamp_59 : decode cX7_lamp 59 = .ok (.iload_n 1, 1) := by decide +kernel
theorem dX7_lamp_60 : decode cX7_lamp 60 = .ok (.invokevirtual 75, 3) := by decide +kernel
theorem dX7_lamp_63 : decode cX7_lamp 63 = .ok (.aload_n 0, 1) := by decide +kernel
theorem dX7_lamp_64 : decode cX7_lamp 64 = .ok (.aload_n 0, 1) := by decide +kernel
theorem dX7_lamp_65 : decode cX7_lamp 65 = .ok (.getfield 7, 3) := by decide +kernel
theorem dX7_lamp_68 : decode cX7_lamp 68 = .ok (.bipush 7, 2) := by decide +kernel
theorem dX7_lamp_70 : decode cX7_lamp 70 = .ok (.iaload, 1) := by decide +kernel
theorem dX7_lamp_71 : decode cX7_lamp 71 = .ok (.iconst 1, 1) := by decide +kernel
theorem dX7_lamp_72 : decode cX7_lamp 72 = .ok (.iload_n 2, 1) := by decide +kernel
theorem dX7_lamp_73 : decode cX7_lamp 73 = .ok (.invokevirtual 75, 3) := by decide +kernel
theorem dX7_lamp_76 : decode cX7_lamp 76 = .ok (.aload_n 0, 1) := by decide +kernel
theorem dX7_lamp_77 : decode cX7_lamp 77 = .ok (.getfield 7, 3) := by decide +kernel
theorem dX7_lamp_80 : decode cX7_lamp 80 = .ok (.bipush 7, 2) := by decide +kernel
theorem dX7_lamp_82 : decode cX7_lamp 82 = .ok (.dup2, 1) := by decide +kernel
theorem dX7_lamp_83 : decode cX7_lamp 83 = .ok (.iaload, 1) := by decide +kernel
theorem dX7_lamp_84 : decode cX7_lamp 84 = .ok (.iconst 1, 1) := by decide +kernel
theorem dX7_lamp_85 : decode cX7_lamp 85 = .ok (.iadd, 1) := by decide +kernel
theorem dX7_lamp_86 : decode cX7_lamp 86 = .ok (.iastore, 1) := by decide +kernel
theorem dX7_lamp_87 : decode cX7_lamp 87 = .ok (.aload_n 0, 1) := by decide +kernel
theorem dX7_lamp_88 : decode cX7_lamp 88 = .ok (.getfield 7, 3) := by decide +kernel
theorem dX7_lamp_91 : decode cX7_lamp 91 = .ok (.bipush 7, 2) := by decide +kernel
theorem dX7_lamp_93 : decode cX7_lamp 93 = .ok (.iaload, 1) := by decide +kernel
theorem dX7_lamp_94 : decode cX7_lamp 94 = .ok (.iconst 1, 1) := by decide +kernel
theorem dX7_lamp_95 : decode cX7_lamp 95 = .ok (.isub, 1) := by decide +kernel
theorem dX7_lamp_96 : decode cX7_lamp 96 = .ok (.ireturn, 1) := by decide +kernel
theorem dX7_house_0 : decode cX7_house 0 = .ok (.iload_n 1, 1) := by decide +kernel
theorem dX7_house_1 : decode cX7_house 1 = .ok (.invokestatic 139, 3) := by decide +kernel
theorem dX7_house_4 : decode cX7_house 4 = .ok (.ifCond .ne 6, 3) := by decide +kernel
theorem dX7_house_7 : decode cX7_house 7 = .ok (.bipush (-2), 2) := by decide +kernel
theorem dX7_house_9 : decode cX7_house 9 = .ok (.ireturn, 1) := by decide +kernel
theorem dX7_house_10 : decode cX7_house 10 = .ok (.aload_n 0, 1) := by decide +kernel
theorem dX7_house_11 : decode cX7_house 11 = .ok (.getfield 7, 3) := by decide +kernel
theorem dX7_house_14 : decode cX7_house 14 = .ok (.bipush 8, 2) := by decide +kernel
theorem dX7_house_16 : decode cX7_house 16 = .ok (.iaload, 1) := by decide +kernel
theorem dX7_house_17 : decode cX7_house 17 = .ok (.bipush 8, 2) := by decide +kernel
theorem dX7_house_19 : decode cX7_house 19 = .ok (.if_icmp .ne 6, 3) := by decide +kernel
theorem dX7_house_22 : decode cX7_house 22 = .ok (.bipush (-4), 2) := by decide +kernel
theorem dX7_house_24 : decode cX7_house 24 = .ok (.ireturn, 1) := by decide +kernel
theorem dX7_house_25 : decode cX7_house 25 = .ok (.aload_n 0, 1) := by decide +kernel
theorem dX7_house_26 : decode cX7_house 26 = .ok (.invokevirtual 59, 3) := by decide +kernel
theorem dX7_house_29 : decode cX7_house 29 = .ok (.aload_n 0, 1) := by decide +kernel
theorem dX7_house_30 : decode cX7_house 30 = .ok (.getfield 7, 3) := by decide +kernel
theorem dX7_house_33 : decode cX7_house 33 = .ok (.sipush 218, 3) := by decide +kernel
theorem dX7_house_36 : decode cX7_house 36 = .ok (.iconst 3, 1) := by decide +kernel
theorem dX7_house_37 : decode cX7_house 37 = .ok (.aload_n 0, 1) := by decide +kernel
theorem dX7_house_38 : decode cX7_house 38 = .ok (.getfield 7, 3) := by decide +kernel
theorem dX7_house_41 : decode cX7_house 41 = .ok (.bipush 8, 2) := by decide +kernel
theorem dX7_house_43 : decode cX7_house 43 = .ok (.iaload, 1) := by decide +kernel
theorem dX7_house_44 : decode cX7_house 44 = .ok (.imul, 1) := by decide +kernel
theorem dX7_house_45 : decode cX7_house 45 = .ok (.iadd, 1) := by decide +kernel
theorem dX7_house_46 : decode cX7_house 46 = .ok (.iload_n 1, 1) := by decide +kernel
theorem dX7_house_47 : decode cX7_house 47 = .ok (.iastore, 1) := by decide +kernel
theorem dX7_house_48 : decode cX7_house 48 = .ok (.aload_n 0, 1) := by decide +kernel
theorem dX7_house_49 : decode cX7_house 49 = .ok (.getfield 7, 3) := by decide +kernel
theorem dX7_house_52 : decode cX7_house 52 = .ok (.bipush 8, 2) := by decide +kernel
theorem dX7_house_54 : decode cX7_house 54 = .ok (.dup2, 1) := by decide +kernel
theorem dX7_house_55 : decode cX7_house 55 = .ok (.iaload, 1) := by decide +kernel
theorem dX7_house_56 : decode cX7_house 56 = .ok (.iconst 1, 1) := by decide +kernel
theorem dX7_house_57 : decode cX7_house 57 = .ok (.iadd, 1) := by decide +kernel
theorem dX7_house_58 : decode cX7_house 58 = .ok (.iastore, 1) := by decide +kernel
theorem dX7_house_59 : decode cX7_house 59 = .ok (.aload_n 0, 1) := by decide +kernel
theorem dX7_house_60 : decode cX7_house 60 = .ok (.getfield 7, 3) := by decide +kernel
theorem dX7_house_63 : decode cX7_house 63 = .ok (.bipush 8, 2) := by decide +kernel
theorem dX7_house_65 : decode cX7_house 65 = .ok (.iaload, 1) := by decide +kernel
theorem dX7_house_66 : decode cX7_house 66 = .ok (.iconst 1, 1) := by decide +kernel
theorem dX7_house_67 : decode cX7_house 67 = .ok (.isub, 1) := by decide +kernel
theorem dX7_house_68 : decode cX7_house 68 = .ok (.ireturn, 1) := by decide +kernel
theorem dX7_tryWalker_0 : decode cX7_tryWalker 0 = .ok (.iload_n 1, 1) := by decide +kernel
theorem dX7_tryWalker_1 : decode cX7_tryWalker 1 = .ok (.invokestatic 139, 3) := by decide +kernel
theorem dX7_tryWalker_4 : decode cX7_tryWalker 4 = .ok (.ifCond .eq 12, 3) := by decide +kernel
theorem dX7_tryWalker_7 : decode cX7_tryWalker 7 = .ok (.iload_n 2, 1) := by decide +kernel
theorem dX7_tryWalker_8 : decode cX7_tryWalker 8 = .ok (.iconst 1, 1) := by decide +kernel
theorem dX7_tryWalker_9 : decode cX7_tryWalker 9 = .ok (.iconst 4, 1) := by decide +kernel
theorem dX7_tryWalker_10 : decode cX7_tryWalker 10 = .ok (.invokestatic 44, 3) := by decide +kernel
theorem dX7_tryWalker_13 : decode cX7_tryWalker 13 = .ok (.ifCond .ne 6, 3) := by decide +kernel
theorem dX7_tryWalker_16 : decode cX7_tryWalker 16 = .ok (.bipush (-2), 2) := by decide +kernel
theorem dX7_tryWalker_18 : decode cX7_tryWalker 18 = .ok (.ireturn, 1) := by decide +kernel
theorem dX7_tryWalker_19 : decode cX7_tryWalker 19 = .ok (.aload_n 0, 1) := by decide +kernel
theorem dX7_tryWalker_20 : decode cX7_tryWalker 20 = .ok (.getfield 7, 3) := by decide +kernel
theorem dX7_tryWalker_23 : decode cX7_tryWalker 23 = .ok (.bipush 9, 2) := by decide +kernel
theorem dX7_tryWalker_25 : decode cX7_tryWalker 25 = .ok (.iaload, 1) := by decide +kernel
theorem dX7_tryWalker_26 : decode cX7_tryWalker 26 = .ok (.bipush 8, 2) := by decide +kernel
theorem dX7_tryWalker_28 : decode cX7_tryWalker 28 = .ok (.if_icmp .ne 6, 3) := by decide +kernel
theorem dX7_tryWalker_31 : decode cX7_tryWalker 31 = .ok (.bipush (-4), 2) := by decide +kernel
theorem dX7_tryWalker_33 : decode cX7_tryWalker 33 = .ok (.ireturn, 1) := by decide +kernel
theorem dX7_tryWalker_34 : decode cX7_tryWalker 34 = .ok (.aload_n 0, 1) := by decide +kernel
theorem dX7_tryWalker_35 : decode cX7_tryWalker 35 = .ok (.iload_n 3, 1) := by decide +kernel
theorem dX7_tryWalker_36 : decode cX7_tryWalker 36 = .ok (.invokevirtual 145, 3) := by decide +kernel
theorem dX7_tryWalker_39 : decode cX7_tryWalker 39 = .ok (.aload_n 0, 1) := by decide +kernel
theorem dX7_tryWalker_40 : decode cX7_tryWalker 40 = .ok (.aload_n 0, 1) := by decide +kernel
theorem dX7_tryWalker_41 : decode cX7_tryWalker 41 = .ok (.getfield 7, 3) := by decide +kernel
theorem dX7_tryWalker_44 : decode cX7_tryWalker 44 = .ok (.bipush 9, 2) := by decide +kernel
theorem dX7_tryWalker_46 : decode cX7_tryWalker 46 = .ok (.iaload, 1) := by decide +kernel
theorem dX7_tryWalker_47 : decode cX7_tryWalker 47 = .ok (.iconst 0, 1) := by decide +kernel
theorem dX7_tryWalker_48 : decode cX7_tryWalker 48 = .ok (.iload_n 1, 1) := by decide +kernel
theorem dX7_tryWalker_49 : decode cX7_tryWalker 49 = .ok (.invokevirtual 89, 3) := by decide +kernel
theorem dX7_tryWalker_52 : decode cX7_tryWalker 52 = .ok (.aload_n 0, 1) := by decide +kernel
theorem dX7_tryWalker_53 : decode cX7_tryWalker 53 = .ok (.aload_n 0, 1) := by decide +kernel
theorem dX7_tryWalker_54 : decode cX7_tryWalker 54 = .ok (.getfield 7, 3) := by decide +kernel
theorem dX7_tryWalker_57 : decode cX7_tryWalker 57 = .ok (.bipush 9, 2) := by decide +kernel
theorem dX7_tryWalker_59 : decode cX7_tryWalker 59 = .ok (.iaload, 1) := by decide +kernel
theorem dX7_tryWalker_60 : decode cX7_tryWalker 60 = .ok (.iconst 1, 1) := by decide +kernel
theorem dX7_tryWalker_61 : decode cX7_tryWalker 61 = .ok (.iload_n 2, 1) := by decide +kernel
theorem dX7_tryWalker_62 : decode cX7_tryWalker 62 = .ok (.invokevirtual 89, 3) := by decide +kernel
theorem dX7_tryWalker_65 : decode cX7_tryWalker 65 = .ok (.aload_n 0, 1) := by decide +kernel
theorem dX7_tryWalker_66 : decode cX7_tryWalker 66 = .ok (.aload_n 0, 1) := by decide +kernel
theorem dX7_tryWalker_67 : decode cX7_tryWalker 67 = .ok (.getfield 7, 3) := by decide +kernel
theorem dX7_tryWalker_70 : decode cX7_tryWalker 70 = .ok (.bipush 9, 2) := by decide +kernel
theorem dX7_tryWalker_72 : decode cX7_tryWalker 72 = .ok (.iaload, 1) := by decide +kernel
theorem dX7_tryWalker_73 : decode cX7_tryWalker 73 = .ok (.iconst 4, 1) := by decide +kernel
theorem dX7_tryWalker_74 : decode cX7_tryWalker 74 = .ok (.bipush (-6), 2) := by decide +kernel
theorem dX7_tryWalker_76 : decode cX7_tryWalker 76 = .ok (.invokevirtual 89, 3) := by decide +kernel
theorem dX7_tryWalker_79 : decode cX7_tryWalker 79 = .ok (.aload_n 0, 1) := by decide +kernel
theorem dX7_tryWalker_80 : decode cX7_tryWalker 80 = .ok (.getfield 7, 3) := by decide +kernel
theorem dX7_tryWalker_83 : decode cX7_tryWalker 83 = .ok (.bipush 9, 2) := by decide +kernel
theorem dX7_tryWalker_85 : decode cX7_tryWalker 85 = .ok (.dup2, 1) := by decide +kernel
theorem dX7_tryWalker_86 : decode cX7_tryWalker 86 = .ok (.iaload, 1) := by decide +kernel
theorem dX7_tryWalker_87 : decode cX7_tryWalker 87 = .ok (.iconst 1, 1) := by decide +kernel
theorem dX7_tryWalker_88 : decode cX7_tryWalker 88 = .ok (.iadd, 1) := by decide +kernel
theorem dX7_tryWalker_89 : decode cX7_tryWalker 89 = .ok (.iastore, 1) := by decide +kernel
theorem dX7_tryWalker_90 : decode cX7_tryWalker 90 = .ok (.aload_n 0, 1) := by decide +kernel
theorem dX7_tryWalker_91 : decode cX7_tryWalker 91 = .ok (.getfield 7, 3) := by decide +kernel
theorem dX7_tryWalker_94 : decode cX7_tryWalker 94 = .ok (.bipush 9, 2) := by decide +kernel
theorem dX7_tryWalker_96 : decode cX7_tryWalker 96 = .ok (.iaload, 1) := by decide +kernel
theorem dX7_tryWalker_97 : decode cX7_tryWalker 97 = .ok (.iconst 1, 1) := by decide +kernel
theorem dX7_tryWalker_98 : decode cX7_tryWalker 98 = .ok (.isub, 1) := by decide +kernel
theorem dX7_tryWalker_99 : decode cX7_tryWalker 99 = .ok (.ireturn, 1) := by decide +kernel
theorem dX7_walker_0 : decode cX7_walker 0 = .ok (.aload_n 0, 1) := by decide +kernel
theorem dX7_walker_1 : decode cX7_walker 1 = .ok (.iload_n 1, 1) := by decide +kernel
theorem dX7_walker_2 : decode cX7_walker 2 = .ok (.iload_n 2, 1) := by decide +kernel
theorem dX7_walker_3 : decode cX7_walker 3 = .ok (.iconst 1, 1) := by decide +kernel
theorem dX7_walker_4 : decode cX7_walker 4 = .ok (.invokevirtual 149, 3) := by decide +kernel
theorem dX7_walker_7 : decode cX7_walker 7 = .ok (.ireturn, 1) := by decide +kernel
theorem dX7_tryGoal_0 : decode cX7_tryGoal 0 = .ok (.aload_n 0, 1) := by decide +kernel
theorem dX7_tryGoal_1 : decode cX7_tryGoal 1 = .ok (.iload_n 1, 1) := by decide +kernel
theorem dX7_tryGoal_2 : decode cX7_tryGoal 2 = .ok (.invokevirtual 153, 3) := by decide +kernel
theorem dX7_tryGoal_5 : decode cX7_tryGoal 5 = .ok (.ifCond .ne 5, 3) := by decide +kernel
theorem dX7_tryGoal_8 : decode cX7_tryGoal 8 = .ok (.iconst (-1), 1) := by decide +kernel
theorem dX7_tryGoal_9 : decode cX7_tryGoal 9 = .ok (.ireturn, 1) := by decide +kernel
theorem dX7_tryGoal_10 : decode cX7_tryGoal 10 = .ok (.iload_n 2, 1) := by decide +kernel
theorem dX7_tryGoal_11 : decode cX7_tryGoal 11 = .ok (.invokestatic 139, 3) := by decide +kernel
theorem dX7_tryGoal_14 : decode cX7_tryGoal 14 = .ok (.ifCond .eq 13, 3) := by decide +kernel
theorem dX7_tryGoal_17 : decode cX7_tryGoal 17 = .ok (.iload_n 3, 1) := by decide +kernel
theorem dX7_tryGoal_18 : decode cX7_tryGoal 18 = .ok (.iconst 0, 1) := by decide +kernel
theorem dX7_tryGoal_19 : decode cX7_tryGoal 19 = .ok (.bipush 20, 2) := by decide +kernel
theorem dX7_tryGoal_21 : decode cX7_tryGoal 21 = .ok (.invokestatic 44, 3) := by decide +kernel
theorem dX7_tryGoal_24 : decode cX7_tryGoal 24 = .ok (.ifCond .ne 6, 3) := by decide +kernel
theorem dX7_tryGoal_27 : decode cX7_tryGoal 27 = .ok (.bipush (-2), 2) := by decide +kernel
theorem dX7_tryGoal_29 : decode cX7_tryGoal 29 = .ok (.ireturn, 1) := by decide +kernel
theorem dX7_tryGoal_30 : decode cX7_tryGoal 30 = .ok (.aload_n 0, 1) := by decide +kernel
theorem dX7_tryGoal_31 : decode cX7_tryGoal 31 = .ok (.iload_n 1, 1) := by decide +kernel
theorem dX7_tryGoal_32 : decode cX7_tryGoal 32 = .ok (.iconst 3, 1) := by decide +kernel
theorem dX7_tryGoal_33 : decode cX7_tryGoal 33 = .ok (.invokevirtual 48, 3) := by decide +kernel
theorem dX7_tryGoal_36 : decode cX7_tryGoal 36 = .ok (.bipush 6, 2) := by decide +kernel
theorem dX7_tryGoal_38 : decode cX7_tryGoal 38 = .ok (.if_icmp .ne 6, 3) := by decide +kernel
theorem dX7_tryGoal_41 : decode cX7_tryGoal 41 = .ok (.bipush (-4), 2) := by decide +kernel
theorem dX7_tryGoal_43 : decode cX7_tryGoal 43 = .ok (.ireturn, 1) := by decide +kernel
theorem dX7_tryGoal_44 : decode cX7_tryGoal 44 = .ok (.aload_n 0, 1) := by decide +kernel
theorem dX7_tryGoal_45 : decode cX7_tryGoal 45 = .ok (.iload_n 1, 1) := by decide +kernel
theorem dX7_tryGoal_46 : decode cX7_tryGoal 46 = .ok (.invokevirtual 95, 3) := by decide +kernel
theorem dX7_tryGoal_49 : decode cX7_tryGoal 49 = .ok (.ifCond .ne 6, 3) := by decide +kernel
theorem dX7_tryGoal_52 : decode cX7_tryGoal 52 = .ok (.bipush (-5), 2) := by decide +kernel
theorem dX7_tryGoal_54 : decode cX7_tryGoal 54 = .ok (.ireturn, 1) := by decide +kernel
theorem dX7_tryGoal_55 : decode cX7_tryGoal 55 = .ok (.aload_n 0, 1) := by decide +kernel
theorem dX7_tryGoal_56 : decode cX7_tryGoal 56 = .ok (.iload 4, 2) := by decide +kernel
theorem dX7_tryGoal_58 : decode cX7_tryGoal 58 = .ok (.invokevirtual 145, 3) := by decide +kernel
theorem dX7_tryGoal_61 : decode cX7_tryGoal 61 = .ok (.aload_n 0, 1) := by decide +kernel
theorem dX7_tryGoal_62 : decode cX7_tryGoal 62 = .ok (.iload_n 1, 1) := by decide +kernel
theorem dX7_tryGoal_63 : decode cX7_tryGoal 63 = .ok (.bipush 8, 2) := by decide +kernel
theorem dX7_tryGoal_65 : decode cX7_tryGoal 65 = .ok (.iconst 2, 1) := by decide +kernel
theorem dX7_tryGoal_66 : decode cX7_tryGoal 66 = .ok (.aload_n 0, 1) := by decide +kernel
theorem dX7_tryGoal_67 : decode cX7_tryGoal 67 = .ok (.iload_n 1, 1) := by decide +kernel
theorem dX7_tryGoal_68 : decode cX7_tryGoal 68 = .ok (.iconst 3, 1) := by decide +kernel
theorem dX7_tryGoal_69 : decode cX7_tryGoal 69 = .ok (.invokevirtual 48, 3) := by decide +kernel
theorem dX7_tryGoal_72 : decode cX7_tryGoal 72 = .ok (.imul, 1) := by decide +kernel
theorem dX7_tryGoal_73 : decode cX7_tryGoal 73 = .ok (.iadd, 1) := by decide +kernel
theorem dX7_tryGoal_74 : decode cX7_tryGoal 74 = .ok (.iload_n 2, 1) := by decide +kernel
theorem dX7_tryGoal_75 : decode cX7_tryGoal 75 = .ok (.invokevirtual 89, 3) := by decide +kernel
theorem dX7_tryGoal_78 : decode cX7_tryGoal 78 = .ok (.aload_n 0, 1) := by decide +kernel
theorem dX7_tryGoal_79 : decode cX7_tryGoal 79 = .ok (.iload_n 1, 1) := by decide +kernel
theorem dX7_tryGoal_80 : decode cX7_tryGoal 80 = .ok (.bipush 8, 2) := by decide +kernel
theorem dX7_tryGoal_82 : decode cX7_tryGoal 82 = .ok (.iconst 2, 1) := by decide +kernel
theorem dX7_tryGoal_83 : decode cX7_tryGoal 83 = .ok (.aload_n 0, 1) := by decide +kernel
theorem dX7_tryGoal_84 : decode cX7_tryGoal 84 = .ok (.iload_n 1, 1) := by decide +kernel
theorem dX7_tryGoal_85 : decode cX7_tryGoal 85 = .ok (.iconst 3, 1) := by decide +kernel
theorem dX7_tryGoal_86 : decode cX7_tryGoal 86 = .ok (.invokevirtual 48, 3) := by decide +kernel
theorem dX7_tryGoal_89 : decode cX7_tryGoal 89 = .ok (.imul, 1) := by decide +kernel
theorem dX7_tryGoal_90 : decode cX7_tryGoal 90 = .ok (.iadd, 1) := by decide +kernel
theorem dX7_tryGoal_91 : decode cX7_tryGoal 91 = .ok (.iconst 1, 1) := by decide +kernel
theorem dX7_tryGoal_92 : decode cX7_tryGoal 92 = .ok (.iadd, 1) := by decide +kernel
theorem dX7_tryGoal_93 : decode cX7_tryGoal 93 = .ok (.iload_n 3, 1) := by decide +kernel
theorem dX7_tryGoal_94 : decode cX7_tryGoal 94 = .ok (.invokevirtual 89, 3) := by decide +kernel
theorem dX7_tryGoal_97 : decode cX7_tryGoal 97 = .ok (.aload_n 0, 1) := by decide +kernel
theorem dX7_tryGoal_98 : decode cX7_tryGoal 98 = .ok (.iload_n 1, 1) := by decide +kernel
theorem dX7_tryGoal_99 : decode cX7_tryGoal 99 = .ok (.iconst 3, 1) := by decide +kernel
theorem dX7_tryGoal_100 : decode cX7_tryGoal 100 = .ok (.aload_n 0, 1) := by decide +kernel
theorem dX7_tryGoal_101 : decode cX7_tryGoal 101 = .ok (.iload_n 1, 1) := by decide +kernel
theorem dX7_tryGoal_102 : decode cX7_tryGoal 102 = .ok (.iconst 3, 1) := by decide +kernel
theorem dX7_tryGoal_103 : decode cX7_tryGoal 103 = .ok (.invokevirtual 48, 3) := by decide +kernel
theorem dX7_tryGoal_106 : decode cX7_tryGoal 106 = .ok (.iconst 1, 1) := by decide +kernel
theorem dX7_tryGoal_107 : decode cX7_tryGoal 107 = .ok (.iadd, 1) := by decide +kernel
theorem dX7_tryGoal_108 : decode cX7_tryGoal 108 = .ok (.invokevirtual 89, 3) := by decide +kernel
theorem dX7_tryGoal_111 : decode cX7_tryGoal 111 = .ok (.aload_n 0, 1) := by decide +kernel
theorem dX7_tryGoal_112 : decode cX7_tryGoal 112 = .ok (.iload_n 1, 1) := by decide +kernel
theorem dX7_tryGoal_113 : decode cX7_tryGoal 113 = .ok (.iconst 3, 1) := by decide +kernel
theorem dX7_tryGoal_114 : decode cX7_tryGoal 114 = .ok (.invokevirtual 48, 3) := by decide +kernel
theorem dX7_tryGoal_117 : decode cX7_tryGoal 117 = .ok (.ireturn, 1) := by decide +kernel
theorem dX7_goal_0 : decode cX7_goal 0 = .ok (.aload_n 0, 1) := by decide +kernel
theorem dX7_goal_1 : decode cX7_goal 1 = .ok (.iload_n 1, 1) := by decide +kernel
theorem dX7_goal_2 : decode cX7_goal 2 = .ok (.iload_n 2, 1) := by decide +kernel
theorem dX7_goal_3 : decode cX7_goal 3 = .ok (.iload_n 3, 1) := by decide +kernel
theorem dX7_goal_4 : decode cX7_goal 4 = .ok (.iconst 1, 1) := by decide +kernel
theorem dX7_goal_5 : decode cX7_goal 5 = .ok (.invokevirtual 156, 3) := by decide +kernel
theorem dX7_goal_8 : decode cX7_goal 8 = .ok (.ireturn, 1) := by decide +kernel
theorem dX7_mendTo_0 : decode cX7_mendTo 0 = .ok (.aload_n 0, 1) := by decide +kernel
theorem dX7_mendTo_1 : decode cX7_mendTo 1 = .ok (.iload_n 1, 1) := by decide +kernel
theorem dX7_mendTo_2 : decode cX7_mendTo 2 = .ok (.iconst 3, 1) := by decide +kernel
theorem dX7_mendTo_3 : decode cX7_mendTo 3 = .ok (.iload_n 2, 1) := by decide +kernel
theorem dX7_mendTo_4 : decode cX7_mendTo 4 = .ok (.invokevirtual 75, 3) := by decide +kernel
theorem dX7_mendTo_7 : decode cX7_mendTo 7 = .ok (.iload_n 2, 1) := by decide +kernel
theorem dX7_mendTo_8 : decode cX7_mendTo 8 = .ok (.iconst 2, 1) := by decide +kernel
theorem dX7_mendTo_9 : decode cX7_mendTo 9 = .ok (.if_icmp .ne 22, 3) := by decide +kernel
theorem dX7_mendTo_12 : decode cX7_mendTo 12 = .ok (.aload_n 0, 1) := by decide +kernel
theorem dX7_mendTo_13 : decode cX7_mendTo 13 = .ok (.iload_n 1, 1) := by decide +kernel
theorem dX7_mendTo_14 : decode cX7_mendTo 14 = .ok (.iconst 2, 1) := by decide +kernel
theorem dX7_mendTo_15 : decode cX7_mendTo 15 = .ok (.iconst 0, 1) := by decide +kernel
theorem dX7_mendTo_16 : decode cX7_mendTo 16 = .ok (.invokevirtual 75, 3) := by decide +kernel
theorem dX7_mendTo_19 : decode cX7_mendTo 19 = .ok (.aload_n 0, 1) := by decide +kernel
theorem dX7_mendTo_20 : decode cX7_mendTo 20 = .ok (.iload_n 1, 1) := by decide +kernel
theorem dX7_mendTo_21 : decode cX7_mendTo 21 = .ok (.iconst 4, 1) := by decide +kernel
theorem dX7_mendTo_22 : decode cX7_mendTo 22 = .ok (.iconst 0, 1) := by decide +kernel
theorem dX7_mendTo_23 : decode cX7_mendTo 23 = .ok (.invokevirtual 75, 3) := by decide +kernel
theorem dX7_mendTo_26 : decode cX7_mendTo 26 = .ok (.aload_n 0, 1) := by decide +kernel
theorem dX7_mendTo_27 : decode cX7_mendTo 27 = .ok (.iload_n 1, 1) := by decide +kernel
theorem dX7_mendTo_28 : decode cX7_mendTo 28 = .ok (.invokevirtual 102, 3) := by decide +kernel
theorem dX7_mendTo_31 : decode cX7_mendTo 31 = .ok (.return_, 1) := by decide +kernel
theorem dX7_tryMend_0 : decode cX7_tryMend 0 = .ok (.aload_n 0, 1) := by decide +kernel
theorem dX7_tryMend_1 : decode cX7_tryMend 1 = .ok (.iload_n 1, 1) := by decide +kernel
theorem dX7_tryMend_2 : decode cX7_tryMend 2 = .ok (.invokevirtual 160, 3) := by decide +kernel
theorem dX7_tryMend_5 : decode cX7_tryMend 5 = .ok (.ifCond .ne 5, 3) := by decide +kernel
theorem dX7_tryMend_8 : decode cX7_tryMend 8 = .ok (.iconst (-1), 1) := by decide +kernel
theorem dX7_tryMend_9 : decode cX7_tryMend 9 = .ok (.ireturn, 1) := by decide +kernel
theorem dX7_tryMend_10 : decode cX7_tryMend 10 = .ok (.iload_n 2, 1) := by decide +kernel
theorem dX7_tryMend_11 : decode cX7_tryMend 11 = .ok (.iconst 0, 1) := by decide +kernel
theorem dX7_tryMend_12 : decode cX7_tryMend 12 = .ok (.iconst 2, 1) := by decide +kernel
theorem dX7_tryMend_13 : decode cX7_tryMend 13 = .ok (.invokestatic 44, 3) := by decide +kernel
theorem dX7_tryMend_16 : decode cX7_tryMend 16 = .ok (.ifCond .ne 6, 3) := by decide +kernel
theorem dX7_tryMend_19 : decode cX7_tryMend 19 = .ok (.bipush (-2), 2) := by decide +kernel
theorem dX7_tryMend_21 : decode cX7_tryMend 21 = .ok (.ireturn, 1) := by decide +kernel
theorem dX7_tryMend_22 : decode cX7_tryMend 22 = .ok (.aload_n 0, 1) := by decide +kernel
theorem dX7_tryMend_23 : decode cX7_tryMend 23 = .ok (.iload_n 3, 1) := by decide +kernel
theorem dX7_tryMend_24 : decode cX7_tryMend 24 = .ok (.invokevirtual 145, 3) := by decide +kernel
theorem dX7_tryMend_27 : decode cX7_tryMend 27 = .ok (.aload_n 0, 1) := by decide +kernel
theorem dX7_tryMend_28 : decode cX7_tryMend 28 = .ok (.iload_n 1, 1) := by decide +kernel
theorem dX7_tryMend_29 : decode cX7_tryMend 29 = .ok (.iconst 3, 1) := by decide +kernel
theorem dX7_tryMend_30 : decode cX7_tryMend 30 = .ok (.invokevirtual 62, 3) := by decide +kernel
theorem dX7_tryMend_33 : decode cX7_tryMend 33 = .ok (.istore 4, 2) := by decide +kernel
theorem dX7_tryMend_35 : decode cX7_tryMend 35 = .ok (.aload_n 0, 1) := by decide +kernel
theorem dX7_tryMend_36 : decode cX7_tryMend 36 = .ok (.iload_n 1, 1) := by decide +kernel
theorem dX7_tryMend_37 : decode cX7_tryMend 37 = .ok (.iload_n 2, 1) := by decide +kernel
theorem dX7_tryMend_38 : decode cX7_tryMend 38 = .ok (.invokevirtual 163, 3) := by decide +kernel
theorem dX7_tryMend_41 : decode cX7_tryMend 41 = .ok (.iload 4, 2) := by decide +kernel
theorem dX7_tryMend_43 : decode cX7_tryMend 43 = .ok (.ireturn, 1) := by decide +kernel
theorem dX7_mend_0 : decode cX7_mend 0 = .ok (.aload_n 0, 1) := by decide +kernel
theorem dX7_mend_1 : decode cX7_mend 1 = .ok (.iload_n 1, 1) := by decide +kernel
theorem dX7_mend_2 : decode cX7_mend 2 = .ok (.iload_n 2, 1) := by decide +kernel
theorem dX7_mend_3 : decode cX7_mend 3 = .ok (.iconst 1, 1) := by decide +kernel
theorem dX7_mend_4 : decode cX7_mend 4 = .ok (.invokevirtual 167, 3) := by decide +kernel
theorem dX7_mend_7 : decode cX7_mend 7 = .ok (.ireturn, 1) := by decide +kernel
theorem dX7_tryCough_0 : decode cX7_tryCough 0 = .ok (.aload_n 0, 1) := by decide +kernel
theorem dX7_tryCough_1 : decode cX7_tryCough 1 = .ok (.iload_n 1, 1) := by decide +kernel
theorem dX7_tryCough_2 : decode cX7_tryCough 2 = .ok (.invokevirtual 160, 3) := by decide +kernel
theorem dX7_tryCough_5 : decode cX7_tryCough 5 = .ok (.ifCond .ne 5, 3) := by decide +kernel
theorem dX7_tryCough_8 : decode cX7_tryCough 8 = .ok (.iconst (-1), 1) := by decide +kernel
theorem dX7_tryCough_9 : decode cX7_tryCough 9 = .ok (.ireturn, 1) := by decide +kernel
theorem dX7_tryCough_10 : decode cX7_tryCough 10 = .ok (.aload_n 0, 1) := by decide +kernel
theorem dX7_tryCough_11 : decode cX7_tryCough 11 = .ok (.iload_n 1, 1) := by decide +kernel
theorem dX7_tryCough_12 : decode cX7_tryCough 12 = .ok (.iconst 3, 1) := by decide +kernel
theorem dX7_tryCough_13 : decode cX7_tryCough 13 = .ok (.invokevirtual 62, 3) := by decide +kernel
theorem dX7_tryCough_16 : decode cX7_tryCough 16 = .ok (.iconst 2, 1) := by decide +kernel
theorem dX7_tryCough_17 : decode cX7_tryCough 17 = .ok (.if_icmp .ne 6, 3) := by decide +kernel
theorem dX7_tryCough_20 : decode cX7_tryCough 20 = .ok (.bipush (-5), 2) := by decide +kernel
theorem dX7_tryCough_22 : decode cX7_tryCough 22 = .ok (.ireturn, 1) := by decide +kernel
theorem dX7_tryCough_23 : decode cX7_tryCough 23 = .ok (.aload_n 0, 1) := by decide +kernel
theorem dX7_tryCough_24 : decode cX7_tryCough 24 = .ok (.iload_n 2, 1) := by decide +kernel
theorem dX7_tryCough_25 : decode cX7_tryCough 25 = .ok (.invokevirtual 145, 3) := by decide +kernel
theorem dX7_tryCough_28 : decode cX7_tryCough 28 = .ok (.iconst 0, 1) := by decide +kernel
theorem dX7_tryCough_29 : decode cX7_tryCough 29 = .ok (.istore_n 3, 1) := by decide +kernel
theorem dX7_tryCough_30 : decode cX7_tryCough 30 = .ok (.iload_n 3, 1) := by decide +kernel
theorem dX7_tryCough_31 : decode cX7_tryCough 31 = .ok (.aload_n 0, 1) := by decide +kernel
theorem dX7_tryCough_32 : decode cX7_tryCough 32 = .ok (.getfield 7, 3) := by decide +kernel
theorem dX7_tryCough_35 : decode cX7_tryCough 35 = .ok (.bipush 7, 2) := by decide +kernel
theorem dX7_tryCough_37 : decode cX7_tryCough 37 = .ok (.iaload, 1) := by decide +kernel
theorem dX7_tryCough_38 : decode cX7_tryCough 38 = .ok (.if_icmp .ge 17, 3) := by decide +kernel
theorem dX7_tryCough_41 : decode cX7_tryCough 41 = .ok (.aload_n 0, 1) := by decide +kernel
theorem dX7_tryCough_42 : decode cX7_tryCough 42 = .ok (.iload_n 3, 1) := by decide +kernel
theorem dX7_tryCough_43 : decode cX7_tryCough 43 = .ok (.bipush 11, 2) := by decide +kernel
theorem dX7_tryCough_45 : decode cX7_tryCough 45 = .ok (.iconst 0, 1) := by decide +kernel
theorem dX7_tryCough_46 : decode cX7_tryCough 46 = .ok (.invokevirtual 75, 3) := by decide +kernel
theorem dX7_tryCough_49 : decode cX7_tryCough 49 = .ok (.iinc 3 1, 3) := by decide +kernel
theorem dX7_tryCough_52 : decode cX7_tryCough 52 = .ok (.goto (-22), 3) := by decide +kernel
theorem dX7_tryCough_55 : decode cX7_tryCough 55 = .ok (.aload_n 0, 1) := by decide +kernel
theorem dX7_tryCough_56 : decode cX7_tryCough 56 = .ok (.iload_n 1, 1) := by decide +kernel
theorem dX7_tryCough_57 : decode cX7_tryCough 57 = .ok (.iconst 0, 1) := by decide +kernel
theorem dX7_tryCough_58 : decode cX7_tryCough 58 = .ok (.invokevirtual 105, 3) := by decide +kernel
theorem dX7_tryCough_61 : decode cX7_tryCough 61 = .ok (.ireturn, 1) := by decide +kernel
theorem dX7_cough_0 : decode cX7_cough 0 = .ok (.aload_n 0, 1) := by decide +kernel
theorem dX7_cough_1 : decode cX7_cough 1 = .ok (.iload_n 1, 1) := by decide +kernel
theorem dX7_cough_2 : decode cX7_cough 2 = .ok (.iconst 1, 1) := by decide +kernel
theorem dX7_cough_3 : decode cX7_cough 3 = .ok (.invokevirtual 170, 3) := by decide +kernel
theorem dX7_cough_6 : decode cX7_cough 6 = .ok (.ireturn, 1) := by decide +kernel
theorem dX7_tryTicks_0 : decode cX7_tryTicks 0 = .ok (.iload_n 1, 1) := by decide +kernel
theorem dX7_tryTicks_1 : decode cX7_tryTicks 1 = .ok (.iconst 1, 1) := by decide +kernel
theorem dX7_tryTicks_2 : decode cX7_tryTicks 2 = .ok (.sipush 200, 3) := by decide +kernel
theorem dX7_tryTicks_5 : decode cX7_tryTicks 5 = .ok (.invokestatic 44, 3) := by decide +kernel
theorem dX7_tryTicks_8 : decode cX7_tryTicks 8 = .ok (.ifCond .ne 6, 3) := by decide +kernel
theorem dX7_tryTicks_11 : decode cX7_tryTicks 11 = .ok (.bipush (-2), 2) := by decide +kernel
theorem dX7_tryTicks_13 : decode cX7_tryTicks 13 = .ok (.ireturn, 1) := by decide +kernel
theorem dX7_tryTicks_14 : decode cX7_tryTicks 14 = .ok (.aload_n 0, 1) := by decide +kernel
theorem dX7_tryTicks_15 : decode cX7_tryTicks 15 = .ok (.iload_n 2, 1) := by decide +kernel
theorem dX7_tryTicks_16 : decode cX7_tryTicks 16 = .ok (.invokevirtual 145, 3) := by decide +kernel
theorem dX7_tryTicks_19 : decode cX7_tryTicks 19 = .ok (.iconst 0, 1) := by decide +kernel
theorem dX7_tryTicks_20 : decode cX7_tryTicks 20 = .ok (.istore_n 3, 1) := by decide +kernel
theorem dX7_tryTicks_21 : decode cX7_tryTicks 21 = .ok (.iload_n 3, 1) := by decide +kernel
theorem dX7_tryTicks_22 : decode cX7_tryTicks 22 = .ok (.iload_n 1, 1) := by decide +kernel
theorem dX7_tryTicks_23 : decode cX7_tryTicks 23 = .ok (.if_icmp .ge 13, 3) := by decide +kernel
theorem dX7_tryTicks_26 : decode cX7_tryTicks 26 = .ok (.aload_n 0, 1) := by decide +kernel
theorem dX7_tryTicks_27 : decode cX7_tryTicks 27 = .ok (.invokevirtual 174, 3) := by decide +kernel
theorem dX7_tryTicks_30 : decode cX7_tryTicks 30 = .ok (.iinc 3 1, 3) := by decide +kernel
theorem dX7_tryTicks_33 : decode cX7_tryTicks 33 = .ok (.goto (-12), 3) := by decide +kernel
theorem dX7_tryTicks_36 : decode cX7_tryTicks 36 = .ok (.aload_n 0, 1) := by decide +kernel
theorem dX7_tryTicks_37 : decode cX7_tryTicks 37 = .ok (.getfield 7, 3) := by decide +kernel
theorem dX7_tryTicks_40 : decode cX7_tryTicks 40 = .ok (.bipush 6, 2) := by decide +kernel
theorem dX7_tryTicks_42 : decode cX7_tryTicks 42 = .ok (.iaload, 1) := by decide +kernel
theorem dX7_tryTicks_43 : decode cX7_tryTicks 43 = .ok (.ireturn, 1) := by decide +kernel
theorem dX7_ticks_0 : decode cX7_ticks 0 = .ok (.aload_n 0, 1) := by decide +kernel
theorem dX7_ticks_1 : decode cX7_ticks 1 = .ok (.iload_n 1, 1) := by decide +kernel
theorem dX7_ticks_2 : decode cX7_ticks 2 = .ok (.iconst 1, 1) := by decide +kernel
theorem dX7_ticks_3 : decode cX7_ticks 3 = .ok (.invokevirtual 177, 3) := by decide +kernel
theorem dX7_ticks_6 : decode cX7_ticks 6 = .ok (.ireturn, 1) := by decide +kernel
theorem dX7_ofLamp_0 : decode cX7_ofLamp 0 = .ok (.aload_n 0, 1) := by decide +kernel
theorem dX7_ofLamp_1 : decode cX7_ofLamp 1 = .ok (.iload_n 1, 1) := by decide +kernel
theorem dX7_ofLamp_2 : decode cX7_ofLamp 2 = .ok (.invokevirtual 160, 3) := by decide +kernel
theorem dX7_ofLamp_5 : decode cX7_ofLamp 5 = .ok (.ifCond .ne 5, 3) := by decide +kernel
theorem dX7_ofLamp_8 : decode cX7_ofLamp 8 = .ok (.iconst (-1), 1) := by decide +kernel
theorem dX7_ofLamp_9 : decode cX7_ofLamp 9 = .ok (.ireturn, 1) := by decide +kernel
theorem dX7_ofLamp_10 : decode cX7_ofLamp 10 = .ok (.iload_n 2, 1) := by decide +kernel
theorem dX7_ofLamp_11 : decode cX7_ofLamp 11 = .ok (.iconst 5, 1) := by decide +kernel
theorem dX7_ofLamp_12 : decode cX7_ofLamp 12 = .ok (.if_icmp .eq 9, 3) := by decide +kernel
theorem dX7_ofLamp_15 : decode cX7_ofLamp 15 = .ok (.iload_n 2, 1) := by decide +kernel
theorem dX7_ofLamp_16 : decode cX7_ofLamp 16 = .ok (.bipush 6, 2) := by decide +kernel
theorem dX7_ofLamp_18 : decode cX7_ofLamp 18 = .ok (.if_icmp .ne 24, 3) := by decide +kernel
theorem dX7_ofLamp_21 : decode cX7_ofLamp 21 = .ok (.aload_n 0, 1) := by decide +kernel
theorem dX7_ofLamp_22 : decode cX7_ofLamp 22 = .ok (.iload_n 1, 1) := by decide +kernel
theorem dX7_ofLamp_23 : decode cX7_ofLamp 23 = .ok (.iconst 5, 1) := by decide +kernel
theorem dX7_ofLamp_24 : decode cX7_ofLamp 24 = .ok (.invokevirtual 62, 3) := by decide +kernel
theorem dX7_ofLamp_27 : decode cX7_ofLamp 27 = .ok (.ifCond .le 12, 3) := by decide +kernel
theorem dX7_ofLamp_30 : decode cX7_ofLamp 30 = .ok (.aload_n 0, 1) := by decide +kernel
theorem dX7_ofLamp_31 : decode cX7_ofLamp 31 = .ok (.iload_n 1, 1) := by decide +kernel
theorem dX7_ofLamp_32 : decode cX7_ofLamp 32 = .ok (.iload_n 2, 1) := by decide +kernel
theorem dX7_ofLamp_33 : decode cX7_ofLamp 33 = .ok (.invokevirtual 62, 3) := by decide +kernel
theorem dX7_ofLamp_36 : decode cX7_ofLamp 36 = .ok (.goto 5, 3) := by decide +kernel
theorem dX7_ofLamp_39 : decode cX7_ofLamp 39 = .ok (.bipush (-6), 2) := by decide +kernel
theorem dX7_ofLamp_41 : decode cX7_ofLamp 41 = .ok (.ireturn, 1) := by decide +kernel
theorem dX7_ofLamp_42 : decode cX7_ofLamp 42 = .ok (.iload_n 2, 1) := by decide +kernel
theorem dX7_ofLamp_43 : decode cX7_ofLamp 43 = .ok (.iconst 0, 1) := by decide +kernel
theorem dX7_ofLamp_44 : decode cX7_ofLamp 44 = .ok (.bipush 10, 2) := by decide +kernel
theorem dX7_ofLamp_46 : decode cX7_ofLamp 46 = .ok (.invokestatic 44, 3) := by decide +kernel
theorem dX7_ofLamp_49 : decode cX7_ofLamp 49 = .ok (.ifCond .eq 12, 3) := by decide +kernel
theorem dX7_ofLamp_52 : decode cX7_ofLamp 52 = .ok (.aload_n 0, 1) := by decide +kernel
theorem dX7_ofLamp_53 : decode cX7_ofLamp 53 = .ok (.iload_n 1, 1) := by decide +kernel
theorem dX7_ofLamp_54 : decode cX7_ofLamp 54 = .ok (.iload_n 2, 1) := by decide +kernel
theorem dX7_ofLamp_55 : decode cX7_ofLamp 55 = .ok (.invokevirtual 62, 3) := by decide +kernel
theorem dX7_ofLamp_58 : decode cX7_ofLamp 58 = .ok (.goto 5, 3) := by decide +kernel
theorem dX7_ofLamp_61 : decode cX7_ofLamp 61 = .ok (.bipush (-2), 2) := by decide +kernel
theorem dX7_ofLamp_63 : decode cX7_ofLamp 63 = .ok (.ireturn, 1) := by decide +kernel
theorem dX7_ofWalker_0 : decode cX7_ofWalker 0 = .ok (.aload_n 0, 1) := by decide +kernel
theorem dX7_ofWalker_1 : decode cX7_ofWalker 1 = .ok (.iload_n 1, 1) := by decide +kernel
theorem dX7_ofWalker_2 : decode cX7_ofWalker 2 = .ok (.invokevirtual 153, 3) := by decide +kernel
theorem dX7_ofWalker_5 : decode cX7_ofWalker 5 = .ok (.ifCond .ne 5, 3) := by decide +kernel
theorem dX7_ofWalker_8 : decode cX7_ofWalker 8 = .ok (.iconst (-1), 1) := by decide +kernel
theorem dX7_ofWalker_9 : decode cX7_ofWalker 9 = .ok (.ireturn, 1) := by decide +kernel
theorem dX7_ofWalker_10 : decode cX7_ofWalker 10 = .ok (.iload_n 2, 1) := by decide +kernel
theorem dX7_ofWalker_11 : decode cX7_ofWalker 11 = .ok (.tableswitch 134 0 8 #[49, 49, 49, 56, 78, 85, 92, 99, 126], 49) := by decide +kernel
theorem dX7_ofWalker_60 : decode cX7_ofWalker 60 = .ok (.aload_n 0, 1) := by decide +kernel
theorem dX7_ofWalker_61 : decode cX7_ofWalker 61 = .ok (.iload_n 1, 1) := by decide +kernel
theorem dX7_ofWalker_62 : decode cX7_ofWalker 62 = .ok (.iload_n 2, 1) := by decide +kernel
theorem dX7_ofWalker_63 : decode cX7_ofWalker 63 = .ok (.invokevirtual 48, 3) := by decide +kernel
theorem dX7_ofWalker_66 : decode cX7_ofWalker 66 = .ok (.ireturn, 1) := by decide +kernel
theorem dX7_ofWalker_67 : decode cX7_ofWalker 67 = .ok (.aload_n 0, 1) := by decide +kernel
theorem dX7_ofWalker_68 : decode cX7_ofWalker 68 = .ok (.iload_n 1, 1) := by decide +kernel
theorem dX7_ofWalker_69 : decode cX7_ofWalker 69 = .ok (.iconst 3, 1) := by decide +kernel
theorem dX7_ofWalker_70 : decode cX7_ofWalker 70 = .ok (.invokevirtual 48, 3) := by decide +kernel
theorem dX7_ofWalker_73 : decode cX7_ofWalker 73 = .ok (.ifCond .le 13, 3) := by decide +kernel
theorem dX7_ofWalker_76 : decode cX7_ofWalker 76 = .ok (.aload_n 0, 1) := by decide +kernel
theorem dX7_ofWalker_77 : decode cX7_ofWalker 77 = .ok (.iload_n 1, 1) := by decide +kernel
theorem dX7_ofWalker_78 : decode cX7_ofWalker 78 = .ok (.bipush 8, 2) := by decide +kernel
theorem dX7_ofWalker_80 : decode cX7_ofWalker 80 = .ok (.invokevirtual 48, 3) := by decide +kernel
theorem dX7_ofWalker_83 : decode cX7_ofWalker 83 = .ok (.goto 5, 3) := by decide +kernel
theorem dX7_ofWalker_86 : decode cX7_ofWalker 86 = .ok (.bipush (-6), 2) := by decide +kernel
theorem dX7_ofWalker_88 : decode cX7_ofWalker 88 = .ok (.ireturn, 1) := by decide +kernel
theorem dX7_ofWalker_89 : decode cX7_ofWalker 89 = .ok (.aload_n 0, 1) := by decide +kernel
theorem dX7_ofWalker_90 : decode cX7_ofWalker 90 = .ok (.iload_n 1, 1) := by decide +kernel
theorem dX7_ofWalker_91 : decode cX7_ofWalker 91 = .ok (.iconst 3, 1) := by decide +kernel
theorem dX7_ofWalker_92 : decode cX7_ofWalker 92 = .ok (.invokevirtual 48, 3) := by decide +kernel
theorem dX7_ofWalker_95 : decode cX7_ofWalker 95 = .ok (.ireturn, 1) := by decide +kernel
theorem dX7_ofWalker_96 : decode cX7_ofWalker 96 = .ok (.aload_n 0, 1) := by decide +kernel
theorem dX7_ofWalker_97 : decode cX7_ofWalker 97 = .ok (.iload_n 1, 1) := by decide +kernel
theorem dX7_ofWalker_98 : decode cX7_ofWalker 98 = .ok (.iconst 4, 1) := by decide +kernel
theorem dX7_ofWalker_99 : decode cX7_ofWalker 99 = .ok (.invokevirtual 48, 3) := by decide +kernel
theorem dX7_ofWalker_102 : decode cX7_ofWalker 102 = .ok (.ireturn, 1) := by decide +kernel
theorem dX7_ofWalker_103 : decode cX7_ofWalker 103 = .ok (.aload_n 0, 1) := by decide +kernel
theorem dX7_ofWalker_104 : decode cX7_ofWalker 104 = .ok (.iload_n 1, 1) := by decide +kernel
theorem dX7_ofWalker_105 : decode cX7_ofWalker 105 = .ok (.iconst 5, 1) := by decide +kernel
theorem dX7_ofWalker_106 : decode cX7_ofWalker 106 = .ok (.invokevirtual 48, 3) := by decide +kernel
theorem dX7_ofWalker_109 : decode cX7_ofWalker 109 = .ok (.ireturn, 1) := by decide +kernel
theorem dX7_ofWalker_110 : decode cX7_ofWalker 110 = .ok (.aload_n 0, 1) := by decide +kernel
theorem dX7_ofWalker_111 : decode cX7_ofWalker 111 = .ok (.iload_n 1, 1) := by decide +kernel
theorem dX7_ofWalker_112 : decode cX7_ofWalker 112 = .ok (.invokevirtual 95, 3) := by decide +kernel
theorem dX7_ofWalker_115 : decode cX7_ofWalker 115 = .ok (.ifCond .eq 20, 3) := by decide +kernel
theorem dX7_ofWalker_118 : decode cX7_ofWalker 118 = .ok (.aload_n 0, 1) := by decide +kernel
theorem dX7_ofWalker_119 : decode cX7_ofWalker 119 = .ok (.aload_n 0, 1) := by decide +kernel
theorem dX7_ofWalker_120 : decode cX7_ofWalker 120 = .ok (.iload_n 1, 1) := by decide +kernel
theorem dX7_ofWalker_121 : decode cX7_ofWalker 121 = .ok (.iconst 0, 1) := by decide +kernel
theorem dX7_ofWalker_122 : decode cX7_ofWalker 122 = .ok (.invokevirtual 48, 3) := by decide +kernel
theorem dX7_ofWalker_125 : decode cX7_ofWalker 125 = .ok (.invokevirtual 111, 3) := by decide +kernel
theorem dX7_ofWalker_128 : decode cX7_ofWalker 128 = .ok (.ifCond .eq 7, 3) := by decide +kernel
theorem dX7_ofWalker_131 : decode cX7_ofWalker 131 = .ok (.iconst 1, 1) := by decide +kernel
theorem dX7_ofWalker_132 : decode cX7_ofWalker 132 = .ok (.goto 4, 3) := by decide +kernel
theorem dX7_ofWalker_135 : decode cX7_ofWalker 135 = .ok (.iconst 0, 1) := by decide +kernel
theorem dX7_ofWalker_136 : decode cX7_ofWalker 136 = .ok (.ireturn, 1) := by decide +kernel
theorem dX7_ofWalker_137 : decode cX7_ofWalker 137 = .ok (.aload_n 0, 1) := by decide +kernel
theorem dX7_ofWalker_138 : decode cX7_ofWalker 138 = .ok (.iload_n 1, 1) := by decide +kernel
theorem dX7_ofWalker_139 : decode cX7_ofWalker 139 = .ok (.bipush 6, 2) := by decide +kernel
theorem dX7_ofWalker_141 : decode cX7_ofWalker 141 = .ok (.invokevirtual 48, 3) := by decide +kernel
theorem dX7_ofWalker_144 : decode cX7_ofWalker 144 = .ok (.ireturn, 1) := by decide +kernel
theorem dX7_ofWalker_145 : decode cX7_ofWalker 145 = .ok (.bipush (-2), 2) := by decide +kernel
theorem dX7_ofWalker_147 : decode cX7_ofWalker 147 = .ok (.ireturn, 1) := by decide +kernel
theorem dX7_ofHouse_0 : decode cX7_ofHouse 0 = .ok (.iload_n 1, 1) := by decide +kernel
theorem dX7_ofHouse_1 : decode cX7_ofHouse 1 = .ok (.iconst 0, 1) := by decide +kernel
theorem dX7_ofHouse_2 : decode cX7_ofHouse 2 = .ok (.aload_n 0, 1) := by decide +kernel
theorem dX7_ofHouse_3 : decode cX7_ofHouse 3 = .ok (.getfield 7, 3) := by decide +kernel
theorem dX7_ofHouse_6 : decode cX7_ofHouse 6 = .ok (.bipush 8, 2) := by decide +kernel
theorem dX7_ofHouse_8 : decode cX7_ofHouse 8 = .ok (.iaload, 1) := by decide +kernel
theorem dX7_ofHouse_9 : decode cX7_ofHouse 9 = .ok (.iconst 1, 1) := by decide +kernel
theorem dX7_ofHouse_10 : decode cX7_ofHouse 10 = .ok (.isub, 1) := by decide +kernel
theorem dX7_ofHouse_11 : decode cX7_ofHouse 11 = .ok (.invokestatic 44, 3) := by decide +kernel
theorem dX7_ofHouse_14 : decode cX7_ofHouse 14 = .ok (.ifCond .ne 5, 3) := by decide +kernel
theorem dX7_ofHouse_17 : decode cX7_ofHouse 17 = .ok (.iconst (-1), 1) := by decide +kernel
theorem dX7_ofHouse_18 : decode cX7_ofHouse 18 = .ok (.ireturn, 1) := by decide +kernel
theorem dX7_ofHouse_19 : decode cX7_ofHouse 19 = .ok (.iload_n 2, 1) := by decide +kernel
theorem dX7_ofHouse_20 : decode cX7_ofHouse 20 = .ok (.ifCond .ne 12, 3) := by decide +kernel
theorem dX7_ofHouse_23 : decode cX7_ofHouse 23 = .ok (.aload_n 0, 1) := by decide +kernel
theorem dX7_ofHouse_24 : decode cX7_ofHouse 24 = .ok (.iload_n 1, 1) := by decide +kernel
theorem dX7_ofHouse_25 : decode cX7_ofHouse 25 = .ok (.iconst 0, 1) := by decide +kernel
theorem dX7_ofHouse_26 : decode cX7_ofHouse 26 = .ok (.invokevirtual 72, 3) := by decide +kernel
theorem dX7_ofHouse_29 : decode cX7_ofHouse 29 = .ok (.goto 40, 3) := by decide +kernel
theorem dX7_ofHouse_32 : decode cX7_ofHouse 32 = .ok (.iload_n 2, 1) := by decide +kernel
theorem dX7_ofHouse_33 : decode cX7_ofHouse 33 = .ok (.iconst 1, 1) := by decide +kernel
theorem dX7_ofHouse_34 : decode cX7_ofHouse 34 = .ok (.if_icmp .ne 19, 3) := by decide +kernel
theorem dX7_ofHouse_37 : decode cX7_ofHouse 37 = .ok (.aload_n 0, 1) := by decide +kernel
theorem dX7_ofHouse_38 : decode cX7_ofHouse 38 = .ok (.iload_n 1, 1) := by decide +kernel
theorem dX7_ofHouse_39 : decode cX7_ofHouse 39 = .ok (.invokevirtual 118, 3) := by decide +kernel
theorem dX7_ofHouse_42 : decode cX7_ofHouse 42 = .ok (.ifCond .eq 7, 3) := by decide +kernel
theorem dX7_ofHouse_45 : decode cX7_ofHouse 45 = .ok (.iconst 1, 1) := by decide +kernel
theorem dX7_ofHouse_46 : decode cX7_ofHouse 46 = .ok (.goto 23, 3) := by decide +kernel
theorem dX7_ofHouse_49 : decode cX7_ofHouse 49 = .ok (.iconst 0, 1) := by decide +kernel
theorem dX7_ofHouse_50 : decode cX7_ofHouse 50 = .ok (.goto 19, 3) := by decide +kernel
theorem dX7_ofHouse_53 : decode cX7_ofHouse 53 = .ok (.iload_n 2, 1) := by decide +kernel
theorem dX7_ofHouse_54 : decode cX7_ofHouse 54 = .ok (.iconst 2, 1) := by decide +kernel
theorem dX7_ofHouse_55 : decode cX7_ofHouse 55 = .ok (.if_icmp .ne 12, 3) := by decide +kernel
theorem dX7_ofHouse_58 : decode cX7_ofHouse 58 = .ok (.aload_n 0, 1) := by decide +kernel
theorem dX7_ofHouse_59 : decode cX7_ofHouse 59 = .ok (.iload_n 1, 1) := by decide +kernel
theorem dX7_ofHouse_60 : decode cX7_ofHouse 60 = .ok (.iconst 1, 1) := by decide +kernel
theorem dX7_ofHouse_61 : decode cX7_ofHouse 61 = .ok (.invokevirtual 72, 3) := by decide +kernel
theorem dX7_ofHouse_64 : decode cX7_ofHouse 64 = .ok (.goto 5, 3) := by decide +kernel
theorem dX7_ofHouse_67 : decode cX7_ofHouse 67 = .ok (.bipush (-2), 2) := by decide +kernel
theorem dX7_ofHouse_69 : decode cX7_ofHouse 69 = .ok (.ireturn, 1) := by decide +kernel
theorem dX7_lightAt_0 : decode cX7_lightAt 0 = .ok (.iload_n 1, 1) := by decide +kernel
theorem dX7_lightAt_1 : decode cX7_lightAt 1 = .ok (.invokestatic 139, 3) := by decide +kernel
theorem dX7_lightAt_4 : decode cX7_lightAt 4 = .ok (.ifCond .eq 11, 3) := by decide +kernel
theorem dX7_lightAt_7 : decode cX7_lightAt 7 = .ok (.aload_n 0, 1) := by decide +kernel
theorem dX7_lightAt_8 : decode cX7_lightAt 8 = .ok (.iload_n 1, 1) := by decide +kernel
theorem dX7_lightAt_9 : decode cX7_lightAt 9 = .ok (.invokevirtual 111, 3) := by decide +kernel
theorem dX7_lightAt_12 : decode cX7_lightAt 12 = .ok (.goto 4, 3) := by decide +kernel
theorem dX7_lightAt_15 : decode cX7_lightAt 15 = .ok (.iconst (-1), 1) := by decide +kernel
theorem dX7_lightAt_16 : decode cX7_lightAt 16 = .ok (.ireturn, 1) := by decide +kernel
theorem dX7_hearers_0 : decode cX7_hearers 0 = .ok (.aload_n 0, 1) := by decide +kernel
theorem dX7_hearers_1 : decode cX7_hearers 1 = .ok (.iload_n 1, 1) := by decide +kernel
theorem dX7_hearers_2 : decode cX7_hearers 2 = .ok (.invokevirtual 160, 3) := by decide +kernel
theorem dX7_hearers_5 : decode cX7_hearers 5 = .ok (.ifCond .ne 5, 3) := by decide +kernel
theorem dX7_hearers_8 : decode cX7_hearers 8 = .ok (.iconst (-1), 1) := by decide +kernel
theorem dX7_hearers_9 : decode cX7_hearers 9 = .ok (.ireturn, 1) := by decide +kernel
theorem dX7_hearers_10 : decode cX7_hearers 10 = .ok (.iconst 0, 1) := by decide +kernel
theorem dX7_hearers_11 : decode cX7_hearers 11 = .ok (.istore_n 2, 1) := by decide +kernel
theorem dX7_hearers_12 : decode cX7_hearers 12 = .ok (.iconst 0, 1) := by decide +kernel
theorem dX7_hearers_13 : decode cX7_hearers 13 = .ok (.istore_n 3, 1) := by decide +kernel
theorem dX7_hearers_14 : decode cX7_hearers 14 = .ok (.iload_n 3, 1) := by decide +kernel
theorem dX7_hearers_15 : decode cX7_hearers 15 = .ok (.aload_n 0, 1) := by decide +kernel
theorem dX7_hearers_16 : decode cX7_hearers 16 = .ok (.getfield 7, 3) := by decide +kernel
theorem dX7_hearers_19 : decode cX7_hearers 19 = .ok (.bipush 7, 2) := by decide +kernel
theorem dX7_hearers_21 : decode cX7_hearers 21 = .ok (.iaload, 1) := by decide +kernel
theorem dX7_hearers_22 : decode cX7_hearers 22 = .ok (.if_icmp .ge 38, 3) := by decide +kernel
theorem dX7_hearers_25 : decode cX7_hearers 25 = .ok (.aload_n 0, 1) := by decide +kernel
theorem dX7_hearers_26 : decode cX7_hearers 26 = .ok (.iload_n 1, 1) := by decide +kernel
theorem dX7_hearers_27 : decode cX7_hearers 27 = .ok (.iconst 3, 1) := by decide +kernel
theorem dX7_hearers_28 : decode cX7_hearers 28 = .ok (.invokevirtual 62, 3) := by decide +kernel
theorem dX7_hearers_31 : decode cX7_hearers 31 = .ok (.iconst 2, 1) := by decide +kernel
theorem dX7_hearers_32 : decode cX7_hearers 32 = .ok (.if_icmp .eq 28, 3) := by decide +kernel
theorem dX7_hearers_35 : decode cX7_hearers 35 = .ok (.iload_n 2, 1) := by decide +kernel
theorem dX7_hearers_36 : decode cX7_hearers 36 = .ok (.aload_n 0, 1) := by decide +kernel
theorem dX7_hearers_37 : decode cX7_hearers 37 = .ok (.iload_n 3, 1) := by decide +kernel
theorem dX7_hearers_38 : decode cX7_hearers 38 = .ok (.iload_n 1, 1) := by decide +kernel
theorem dX7_hearers_39 : decode cX7_hearers 39 = .ok (.invokevirtual 82, 3) := by decide +kernel
theorem dX7_hearers_42 : decode cX7_hearers 42 = .ok (.ifCond .eq 9, 3) := by decide +kernel
theorem dX7_hearers_45 : decode cX7_hearers 45 = .ok (.iconst 1, 1) := by decide +kernel
theorem dX7_hearers_46 : decode cX7_hearers 46 = .ok (.iload_n 3, 1) := by decide +kernel
theorem dX7_hearers_47 : decode cX7_hearers 47 = .ok (.ishl, 1) := by decide +kernel
theorem dX7_hearers_48 : decode cX7_hearers 48 = .ok (.goto 4, 3) := by decide +kernel
theorem dX7_hearers_51 : decode cX7_hearers 51 = .ok (.iconst 0, 1) := by decide +kernel
theorem dX7_hearers_52 : decode cX7_hearers 52 = .ok (.ior, 1) := by decide +kernel
theorem dX7_hearers_53 : decode cX7_hearers 53 = .ok (.istore_n 2, 1) := by decide +kernel
theorem dX7_hearers_54 : decode cX7_hearers 54 = .ok (.iinc 3 1, 3) := by decide +kernel
theorem dX7_hearers_57 : decode cX7_hearers 57 = .ok (.goto (-43), 3) := by decide +kernel
theorem dX7_hearers_60 : decode cX7_hearers 60 = .ok (.iload_n 2, 1) := by decide +kernel
theorem dX7_hearers_61 : decode cX7_hearers 61 = .ok (.ireturn, 1) := by decide +kernel
theorem dX7_lampsThat_0 : decode cX7_lampsThat 0 = .ok (.iconst 0, 1) := by decide +kernel
theorem dX7_lampsThat_1 : decode cX7_lampsThat 1 = .ok (.istore_n 2, 1) := by decide +kernel
theorem dX7_lampsThat_2 : decode cX7_lampsThat 2 = .ok (.iconst 0, 1) := by decide +kernel
theorem dX7_lampsThat_3 : decode cX7_lampsThat 3 = .ok (.istore_n 3, 1) := by decide +kernel
theorem dX7_lampsThat_4 : decode cX7_lampsThat 4 = .ok (.iload_n 3, 1) := by decide +kernel
theorem dX7_lampsThat_5 : decode cX7_lampsThat 5 = .ok (.aload_n 0, 1) := by decide +kernel
theorem dX7_lampsThat_6 : decode cX7_lampsThat 6 = .ok (.getfield 7, 3) := by decide +kernel
theorem dX7_lampsThat_9 : decode cX7_lampsThat 9 = .ok (.bipush 7, 2) := by decide +kernel
theorem dX7_lampsThat_11 : decode cX7_lampsThat 11 = .ok (.iaload, 1) := by decide +kernel
theorem dX7_lampsThat_12 : decode cX7_lampsThat 12 = .ok (.if_icmp .ge 27, 3) := by decide +kernel
theorem dX7_lampsThat_15 : decode cX7_lampsThat 15 = .ok (.iload_n 2, 1) := by decide +kernel
theorem dX7_lampsThat_16 : decode cX7_lampsThat 16 = .ok (.aload_n 0, 1) := by decide +kernel
theorem dX7_lampsThat_17 : decode cX7_lampsThat 17 = .ok (.iload_n 3, 1) := by decide +kernel
theorem dX7_lampsThat_18 : decode cX7_lampsThat 18 = .ok (.iconst 2, 1) := by decide +kernel
theorem dX7_lampsThat_19 : decode cX7_lampsThat 19 = .ok (.invokevirtual 62, 3) := by decide +kernel
theorem dX7_lampsThat_22 : decode cX7_lampsThat 22 = .ok (.iload_n 1, 1) := by decide +kernel
theorem dX7_lampsThat_23 : decode cX7_lampsThat 23 = .ok (.if_icmp .ne 7, 3) := by decide +kernel
theorem dX7_lampsThat_26 : decode cX7_lampsThat 26 = .ok (.iconst 1, 1) := by decide +kernel
theorem dX7_lampsThat_27 : decode cX7_lampsThat 27 = .ok (.goto 4, 3) := by decide +kernel
theorem dX7_lampsThat_30 : decode cX7_lampsThat 30 = .ok (.iconst 0, 1) := by decide +kernel
theorem dX7_lampsThat_31 : decode cX7_lampsThat 31 = .ok (.iadd, 1) := by decide +kernel
theorem dX7_lampsThat_32 : decode cX7_lampsThat 32 = .ok (.istore_n 2, 1) := by decide +kernel
theorem dX7_lampsThat_33 : decode cX7_lampsThat 33 = .ok (.iinc 3 1, 3) := by decide +kernel
theorem dX7_lampsThat_36 : decode cX7_lampsThat 36 = .ok (.goto (-32), 3) := by decide +kernel
theorem dX7_lampsThat_39 : decode cX7_lampsThat 39 = .ok (.iload_n 2, 1) := by decide +kernel
theorem dX7_lampsThat_40 : decode cX7_lampsThat 40 = .ok (.ireturn, 1) := by decide +kernel
theorem dX7_sumL_0 : decode cX7_sumL 0 = .ok (.iconst 0, 1) := by decide +kernel
theorem dX7_sumL_1 : decode cX7_sumL 1 = .ok (.istore_n 2, 1) := by decide +kernel
theorem dX7_sumL_2 : decode cX7_sumL 2 = .ok (.iconst 0, 1) := by decide +kernel
theorem dX7_sumL_3 : decode cX7_sumL 3 = .ok (.istore_n 3, 1) := by decide +kernel
theorem dX7_sumL_4 : decode cX7_sumL 4 = .ok (.iload_n 3, 1) := by decide +kernel
theorem dX7_sumL_5 : decode cX7_sumL 5 = .ok (.aload_n 0, 1) := by decide +kernel
theorem dX7_sumL_6 : decode cX7_sumL 6 = .ok (.getfield 7, 3) := by decide +kernel
theorem dX7_sumL_9 : decode cX7_sumL 9 = .ok (.bipush 7, 2) := by decide +kernel
theorem dX7_sumL_11 : decode cX7_sumL 11 = .ok (.iaload, 1) := by decide +kernel
theorem dX7_sumL_12 : decode cX7_sumL 12 = .ok (.if_icmp .ge 18, 3) := by decide +kernel
theorem dX7_sumL_15 : decode cX7_sumL 15 = .ok (.iload_n 2, 1) := by decide +kernel
theorem dX7_sumL_16 : decode cX7_sumL 16 = .ok (.aload_n 0, 1) := by decide +kernel
theorem dX7_sumL_17 : decode cX7_sumL 17 = .ok (.iload_n 3, 1) := by decide +kernel
theorem dX7_sumL_18 : decode cX7_sumL 18 = .ok (.iload_n 1, 1) := by decide +kernel
theorem dX7_sumL_19 : decode cX7_sumL 19 = .ok (.invokevirtual 62, 3) := by decide +kernel
theorem dX7_sumL_22 : decode cX7_sumL 22 = .ok (.iadd, 1) := by decide +kernel
theorem dX7_sumL_23 : decode cX7_sumL 23 = .ok (.istore_n 2, 1) := by decide +kernel
theorem dX7_sumL_24 : decode cX7_sumL 24 = .ok (.iinc 3 1, 3) := by decide +kernel
theorem dX7_sumL_27 : decode cX7_sumL 27 = .ok (.goto (-23), 3) := by decide +kernel
theorem dX7_sumL_30 : decode cX7_sumL 30 = .ok (.iload_n 2, 1) := by decide +kernel
theorem dX7_sumL_31 : decode cX7_sumL 31 = .ok (.ireturn, 1) := by decide +kernel
theorem dX7_darkTicks_0 : decode cX7_darkTicks 0 = .ok (.iconst 0, 1) := by decide +kernel
theorem dX7_darkTicks_1 : decode cX7_darkTicks 1 = .ok (.istore_n 1, 1) := by decide +kernel
theorem dX7_darkTicks_2 : decode cX7_darkTicks 2 = .ok (.iconst 0, 1) := by decide +kernel
theorem dX7_darkTicks_3 : decode cX7_darkTicks 3 = .ok (.istore_n 2, 1) := by decide +kernel
theorem dX7_darkTicks_4 : decode cX7_darkTicks 4 = .ok (.iload_n 2, 1) := by decide +kernel
theorem dX7_darkTicks_5 : decode cX7_darkTicks 5 = .ok (.aload_n 0, 1) := by decide +kernel
theorem dX7_darkTicks_6 : decode cX7_darkTicks 6 = .ok (.getfield 7, 3) := by decide +kernel
theorem dX7_darkTicks_9 : decode cX7_darkTicks 9 = .ok (.bipush 9, 2) := by decide +kernel
theorem dX7_darkTicks_11 : decode cX7_darkTicks 11 = .ok (.iaload, 1) := by decide +kernel
theorem dX7_darkTicks_12 : decode cX7_darkTicks 12 = .ok (.if_icmp .ge 18, 3) := by decide +kernel
theorem dX7_darkTicks_15 : decode cX7_darkTicks 15 = .ok (.iload_n 1, 1) := by decide +kernel
theorem dX7_darkTicks_16 : decode cX7_darkTicks 16 = .ok (.aload_n 0, 1) := by decide +kernel
theorem dX7_darkTicks_17 : decode cX7_darkTicks 17 = .ok (.iload_n 2, 1) := by decide +kernel
theorem dX7_darkTicks_18 : decode cX7_darkTicks 18 = .ok (.iconst 5, 1) := by decide +kernel
theorem dX7_darkTicks_19 : decode cX7_darkTicks 19 = .ok (.invokevirtual 48, 3) := by decide +kernel
theorem dX7_darkTicks_22 : decode cX7_darkTicks 22 = .ok (.iadd, 1) := by decide +kernel
theorem dX7_darkTicks_23 : decode cX7_darkTicks 23 = .ok (.istore_n 1, 1) := by decide +kernel
theorem dX7_darkTicks_24 : decode cX7_darkTicks 24 = .ok (.iinc 2 1, 3) := by decide +kernel
theorem dX7_darkTicks_27 : decode cX7_darkTicks 27 = .ok (.goto (-23), 3) := by decide +kernel
theorem dX7_darkTicks_30 : decode cX7_darkTicks 30 = .ok (.iload_n 1, 1) := by decide +kernel
theorem dX7_darkTicks_31 : decode cX7_darkTicks 31 = .ok (.ireturn, 1) := by decide +kernel
theorem dX7_disturbedTicks_0 : decode cX7_disturbedTicks 0 = .ok (.iconst 0, 1) := by decide +kernel
theorem dX7_disturbedTicks_1 : decode cX7_disturbedTicks 1 = .ok (.istore_n 1, 1) := by decide +kernel
theorem dX7_disturbedTicks_2 : decode cX7_disturbedTicks 2 = .ok (.iconst 0, 1) := by decide +kernel
theorem dX7_disturbedTicks_3 : decode cX7_disturbedTicks 3 = .ok (.istore_n 2, 1) := by decide +kernel
theorem dX7_disturbedTicks_4 : decode cX7_disturbedTicks 4 = .ok (.iload_n 2, 1) := by decide +kernel
theorem dX7_disturbedTicks_5 : decode cX7_disturbedTicks 5 = .ok (.aload_n 0, 1) := by decide +kernel
theorem dX7_disturbedTicks_6 : decode cX7_disturbedTicks 6 = .ok (.getfield 7, 3) := by decide +kernel
theorem dX7_disturbedTicks_9 : decode cX7_disturbedTicks 9 = .ok (.bipush 8, 2) := by decide +kernel
theorem dX7_disturbedTicks_11 : decode cX7_disturbedTicks 11 = .ok (.iaload, 1) := by decide +kernel
theorem dX7_disturbedTicks_12 : decode cX7_disturbedTicks 12 = .ok (.if_icmp .ge 18, 3) := by decide +kernel
theorem dX7_disturbedTicks_15 : decode cX7_disturbedTicks 15 = .ok (.iload_n 1, 1) := by decide +kernel
theorem dX7_disturbedTicks_16 : decode cX7_disturbedTicks 16 = .ok (.aload_n 0, 1) := by decide +kernel
theorem dX7_disturbedTicks_17 : decode cX7_disturbedTicks 17 = .ok (.iload_n 2, 1) := by decide +kernel
theorem dX7_disturbedTicks_18 : decode cX7_disturbedTicks 18 = .ok (.iconst 1, 1) := by decide +kernel
theorem dX7_disturbedTicks_19 : decode cX7_disturbedTicks 19 = .ok (.invokevirtual 72, 3) := by decide +kernel
theorem dX7_disturbedTicks_22 : decode cX7_disturbedTicks 22 = .ok (.iadd, 1) := by decide +kernel
theorem dX7_disturbedTicks_23 : decode cX7_disturbedTicks 23 = .ok (.istore_n 1, 1) := by decide +kernel
theorem dX7_disturbedTicks_24 : decode cX7_disturbedTicks 24 = .ok (.iinc 2 1, 3) := by decide +kernel
theorem dX7_disturbedTicks_27 : decode cX7_disturbedTicks 27 = .ok (.goto (-23), 3) := by decide +kernel
theorem dX7_disturbedTicks_30 : decode cX7_disturbedTicks 30 = .ok (.iload_n 1, 1) := by decide +kernel
theorem dX7_disturbedTicks_31 : decode cX7_disturbedTicks 31 = .ok (.ireturn, 1) := by decide +kernel
theorem dX7_walkersInStreet_0 : decode cX7_walkersInStreet 0 = .ok (.iconst 0, 1) := by decide +kernel
theorem dX7_walkersInStreet_1 : decode cX7_walkersInStreet 1 = .ok (.istore_n 1, 1) := by decide +kernel
theorem dX7_walkersInStreet_2 : decode cX7_walkersInStreet 2 = .ok (.iconst 0, 1) := by decide +kernel
theorem dX7_walkersInStreet_3 : decode cX7_walkersInStreet 3 = .ok (.istore_n 2, 1) := by decide +kernel
theorem dX7_walkersInStreet_4 : decode cX7_walkersInStreet 4 = .ok (.iload_n 2, 1) := by decide +kernel
theorem dX7_walkersInStreet_5 : decode cX7_walkersInStreet 5 = .ok (.aload_n 0, 1) := by decide +kernel
theorem dX7_walkersInStreet_6 : decode cX7_walkersInStreet 6 = .ok (.getfield 7, 3) := by decide +kernel
theorem dX7_walkersInStreet_9 : decode cX7_walkersInStreet 9 = .ok (.bipush 9, 2) := by decide +kernel
theorem dX7_walkersInStreet_11 : decode cX7_walkersInStreet 11 = .ok (.iaload, 1) := by decide +kernel
theorem dX7_walkersInStreet_12 : decode cX7_walkersInStreet 12 = .ok (.if_icmp .ge 25, 3) := by decide +kernel
theorem dX7_walkersInStreet_15 : decode cX7_walkersInStreet 15 = .ok (.iload_n 1, 1) := by decide +kernel
theorem dX7_walkersInStreet_16 : decode cX7_walkersInStreet 16 = .ok (.aload_n 0, 1) := by decide +kernel
theorem dX7_walkersInStreet_17 : decode cX7_walkersInStreet 17 = .ok (.iload_n 2, 1) := by decide +kernel
theorem dX7_walkersInStreet_18 : decode cX7_walkersInStreet 18 = .ok (.invokevirtual 95, 3) := by decide +kernel
theorem dX7_walkersInStreet_21 : decode cX7_walkersInStreet 21 = .ok (.ifCond .eq 7, 3) := by decide +kernel
theorem dX7_walkersInStreet_24 : decode cX7_walkersInStreet 24 = .ok (.iconst 1, 1) := by decide +kernel
theorem dX7_walkersInStreet_25 : decode cX7_walkersInStreet 25 = .ok (.goto 4, 3) := by decide +kernel
theorem dX7_walkersInStreet_28 : decode cX7_walkersInStreet 28 = .ok (.iconst 0, 1) := by decide +kernel
theorem dX7_walkersInStreet_29 : decode cX7_walkersInStreet 29 = .ok (.iadd, 1) := by decide +kernel
theorem dX7_walkersInStreet_30 : decode cX7_walkersInStreet 30 = .ok (.istore_n 1, 1) := by decide +kernel
theorem dX7_walkersInStreet_31 : decode cX7_walkersInStreet 31 = .ok (.iinc 2 1, 3) := by decide +kernel
theorem dX7_walkersInStreet_34 : decode cX7_walkersInStreet 34 = .ok (.goto (-30), 3) := by decide +kernel
theorem dX7_walkersInStreet_37 : decode cX7_walkersInStreet 37 = .ok (.iload_n 1, 1) := by decide +kernel
theorem dX7_walkersInStreet_38 : decode cX7_walkersInStreet 38 = .ok (.ireturn, 1) := by decide +kernel
theorem dX7_count_0 : decode cX7_count 0 = .ok (.iload_n 1, 1) := by decide +kernel
theorem dX7_count_1 : decode cX7_count 1 = .ok (.iconst 0, 1) := by decide +kernel
theorem dX7_count_2 : decode cX7_count 2 = .ok (.iconst 3, 1) := by decide +kernel
theorem dX7_count_3 : decode cX7_count 3 = .ok (.invokestatic 44, 3) := by decide +kernel
theorem dX7_count_6 : decode cX7_count 6 = .ok (.ifCond .eq 13, 3) := by decide +kernel
theorem dX7_count_9 : decode cX7_count 9 = .ok (.aload_n 0, 1) := by decide +kernel
theorem dX7_count_10 : decode cX7_count 10 = .ok (.getfield 7, 3) := by decide +kernel
theorem dX7_count_13 : decode cX7_count 13 = .ok (.bipush 6, 2) := by decide +kernel
theorem dX7_count_15 : decode cX7_count 15 = .ok (.iload_n 1, 1) := by decide +kernel
theorem dX7_count_16 : decode cX7_count 16 = .ok (.iadd, 1) := by decide +kernel
theorem dX7_count_17 : decode cX7_count 17 = .ok (.iaload, 1) := by decide +kernel
theorem dX7_count_18 : decode cX7_count 18 = .ok (.ireturn, 1) := by decide +kernel
theorem dX7_count_19 : decode cX7_count 19 = .ok (.iload_n 1, 1) := by decide +kernel
theorem dX7_count_20 : decode cX7_count 20 = .ok (.bipush 11, 2) := by decide +kernel
theorem dX7_count_22 : decode cX7_count 22 = .ok (.bipush 16, 2) := by decide +kernel
theorem dX7_count_24 : decode cX7_count 24 = .ok (.invokestatic 44, 3) := by decide +kernel
theorem dX7_count_27 : decode cX7_count 27 = .ok (.ifCond .eq 13, 3) := by decide +kernel
theorem dX7_count_30 : decode cX7_count 30 = .ok (.aload_n 0, 1) := by decide +kernel
theorem dX7_count_31 : decode cX7_count 31 = .ok (.getfield 7, 3) := by decide +kernel
theorem dX7_count_34 : decode cX7_count 34 = .ok (.iload_n 1, 1) := by decide +kernel
theorem dX7_count_35 : decode cX7_count 35 = .ok (.bipush 11, 2) := by decide +kernel
theorem dX7_count_37 : decode cX7_count 37 = .ok (.isub, 1) := by decide +kernel
theorem dX7_count_38 : decode cX7_count 38 = .ok (.iaload, 1) := by decide +kernel
theorem dX7_count_39 : decode cX7_count 39 = .ok (.ireturn, 1) := by decide +kernel
theorem dX7_count_40 : decode cX7_count 40 = .ok (.iload_n 1, 1) := by decide +kernel
theorem dX7_count_41 : decode cX7_count 41 = .ok (.tableswitch 126 4 18 #[75, 80, 86, 92, 99, 104, 109, 126, 126, 126, 126, 126, 126, 116, 121], 75) := by decide +kernel
theorem dX7_count_116 : decode cX7_count 116 = .ok (.aload_n 0, 1) := by decide +kernel
theorem dX7_count_117 : decode cX7_count 117 = .ok (.invokevirtual 180, 3) := by decide +kernel
theorem dX7_count_120 : decode cX7_count 120 = .ok (.ireturn, 1) := by decide +kernel
theorem dX7_count_121 : decode cX7_count 121 = .ok (.aload_n 0, 1) := by decide +kernel
theorem dX7_count_122 : decode cX7_count 122 = .ok (.iconst 2, 1) := by decide +kernel
theorem dX7_count_123 : decode cX7_count 123 = .ok (.invokevirtual 184, 3) := by decide +kernel
theorem dX7_count_126 : decode cX7_count 126 = .ok (.ireturn, 1) := by decide +kernel
theorem dX7_count_127 : decode cX7_count 127 = .ok (.aload_n 0, 1) := by decide +kernel
theorem dX7_count_128 : decode cX7_count 128 = .ok (.iconst 1, 1) := by decide +kernel
theorem dX7_count_129 : decode cX7_count 129 = .ok (.invokevirtual 184, 3) := by decide +kernel
theorem dX7_count_132 : decode cX7_count 132 = .ok (.ireturn, 1) := by decide +kernel
theorem dX7_count_133 : decode cX7_count 133 = .ok (.aload_n 0, 1) := by decide +kernel
theorem dX7_count_134 : decode cX7_count 134 = .ok (.bipush 7, 2) := by decide +kernel
theorem dX7_count_136 : decode cX7_count 136 = .ok (.invokevirtual 187, 3) := by decide +kernel
theorem dX7_count_139 : decode cX7_count 139 = .ok (.ireturn, 1) := by decide +kernel
theorem dX7_count_140 : decode cX7_count 140 = .ok (.aload_n 0, 1) := by decide +kernel
theorem dX7_count_141 : decode cX7_count 141 = .ok (.invokevirtual 190, 3) := by decide +kernel
theorem dX7_count_144 : decode cX7_count 144 = .ok (.ireturn, 1) := by decide +kernel
theorem dX7_count_145 : decode cX7_count 145 = .ok (.aload_n 0, 1) := by decide +kernel
theorem dX7_count_146 : decode cX7_count 146 = .ok (.invokevirtual 193, 3) := by decide +kernel
theorem dX7_count_149 : decode cX7_count 149 = .ok (.ireturn, 1) := by decide +kernel
theorem dX7_count_150 : decode cX7_count 150 = .ok (.aload_n 0, 1) := by decide +kernel
theorem dX7_count_151 : decode cX7_count 151 = .ok (.bipush 8, 2) := by decide +kernel
theorem dX7_count_153 : decode cX7_count 153 = .ok (.invokevirtual 187, 3) := by decide +kernel
theorem dX7_count_156 : decode cX7_count 156 = .ok (.ireturn, 1) := by decide +kernel
theorem dX7_count_157 : decode cX7_count 157 = .ok (.aload_n 0, 1) := by decide +kernel
theorem dX7_count_158 : decode cX7_count 158 = .ok (.getfield 196, 3) := by decide +kernel
theorem dX7_count_161 : decode cX7_count 161 = .ok (.ireturn, 1) := by decide +kernel
theorem dX7_count_162 : decode cX7_count 162 = .ok (.aload_n 0, 1) := by decide +kernel
theorem dX7_count_163 : decode cX7_count 163 = .ok (.getfield 52, 3) := by decide +kernel
theorem dX7_count_166 : decode cX7_count 166 = .ok (.ireturn, 1) := by decide +kernel
theorem dX7_count_167 : decode cX7_count 167 = .ok (.bipush (-2), 2) := by decide +kernel
theorem dX7_count_169 : decode cX7_count 169 = .ok (.ireturn, 1) := by decide +kernel
theorem dX7_homeIn_0 : decode cX7_homeIn 0 = .ok (.aload_n 0, 1) := by decide +kernel
theorem dX7_homeIn_1 : decode cX7_homeIn 1 = .ok (.iload_n 1, 1) := by decide +kernel
theorem dX7_homeIn_2 : decode cX7_homeIn 2 = .ok (.invokevirtual 153, 3) := by decide +kernel
theorem dX7_homeIn_5 : decode cX7_homeIn 5 = .ok (.ifCond .ne 5, 3) := by decide +kernel
theorem dX7_homeIn_8 : decode cX7_homeIn 8 = .ok (.iconst (-1), 1) := by decide +kernel
theorem dX7_homeIn_9 : decode cX7_homeIn 9 = .ok (.ireturn, 1) := by decide +kernel
theorem dX7_homeIn_10 : decode cX7_homeIn 10 = .ok (.aload_n 0, 1) := by decide +kernel
theorem dX7_homeIn_11 : decode cX7_homeIn 11 = .ok (.invokevirtual 199, 3) := by decide +kernel
theorem dX7_homeIn_14 : decode cX7_homeIn 14 = .ok (.iconst 0, 1) := by decide +kernel
theorem dX7_homeIn_15 : decode cX7_homeIn 15 = .ok (.istore_n 2, 1) := by decide +kernel
theorem dX7_homeIn_16 : decode cX7_homeIn 16 = .ok (.iload_n 2, 1) := by decide +kernel
theorem dX7_homeIn_17 : decode cX7_homeIn 17 = .ok (.sipush 500, 3) := by decide +kernel
theorem dX7_homeIn_20 : decode cX7_homeIn 20 = .ok (.if_icmp .gt 22, 3) := by decide +kernel
theorem dX7_homeIn_23 : decode cX7_homeIn 23 = .ok (.aload_n 0, 1) := by decide +kernel
theorem dX7_homeIn_24 : decode cX7_homeIn 24 = .ok (.iload_n 1, 1) := by decide +kernel
theorem dX7_homeIn_25 : decode cX7_homeIn 25 = .ok (.invokevirtual 95, 3) := by decide +kernel
theorem dX7_homeIn_28 : decode cX7_homeIn 28 = .ok (.ifCond .eq 14, 3) := by decide +kernel
theorem dX7_homeIn_31 : decode cX7_homeIn 31 = .ok (.aload_n 0, 1) := by decide +kernel
theorem dX7_homeIn_32 : decode cX7_homeIn 32 = .ok (.iload_n 1, 1) := by decide +kernel
theorem dX7_homeIn_33 : decode cX7_homeIn 33 = .ok (.invokevirtual 121, 3) := by decide +kernel
theorem dX7_homeIn_36 : decode cX7_homeIn 36 = .ok (.iinc 2 1, 3) := by decide +kernel
theorem dX7_homeIn_39 : decode cX7_homeIn 39 = .ok (.goto (-23), 3) := by decide +kernel
theorem dX7_homeIn_42 : decode cX7_homeIn 42 = .ok (.aload_n 0, 1) := by decide +kernel
theorem dX7_homeIn_43 : decode cX7_homeIn 43 = .ok (.invokevirtual 202, 3) := by decide +kernel
theorem dX7_homeIn_46 : decode cX7_homeIn 46 = .ok (.iload_n 2, 1) := by decide +kernel
theorem dX7_homeIn_47 : decode cX7_homeIn 47 = .ok (.sipush 500, 3) := by decide +kernel
theorem dX7_homeIn_50 : decode cX7_homeIn 50 = .ok (.if_icmp .gt 7, 3) := by decide +kernel
theorem dX7_homeIn_53 : decode cX7_homeIn 53 = .ok (.iload_n 2, 1) := by decide +kernel
theorem dX7_homeIn_54 : decode cX7_homeIn 54 = .ok (.goto 5, 3) := by decide +kernel
theorem dX7_homeIn_57 : decode cX7_homeIn 57 = .ok (.bipush (-6), 2) := by decide +kernel
theorem dX7_homeIn_59 : decode cX7_homeIn 59 = .ok (.ireturn, 1) := by decide +kernel
end
section
theorem dX7_counted_0 : decode cX7_counted 0 = .ok (.iload_n 1, 1) := by decide +kernel
theorem dX7_counted_1 : decode cX7_counted 1 = .ok (.ifCond .ne 10, 3) := by decide +kernel
theorem dX7_counted_4 : decode cX7_counted 4 = .ok (.aload_n 0, 1) := by decide +kernel
theorem dX7_counted_5 : decode cX7_counted 5 = .ok (.invokevirtual 190, 3) := by decide +kernel
theorem dX7_counted_8 : decode cX7_counted 8 = .ok (.goto 35, 3) := by decide +kernel
theorem dX7_counted_11 : decode cX7_counted 11 = .ok (.iload_n 1, 1) := by decide +kernel
theorem dX7_counted_12 : decode cX7_counted 12 = .ok (.iconst 1, 1) := by decide +kernel
theorem dX7_counted_13 : decode cX7_counted 13 = .ok (.if_icmp .ne 12, 3) := by decide +kernel
theorem dX7_counted_16 : decode cX7_counted 16 = .ok (.aload_n 0, 1) := by decide +kernel
theorem dX7_counted_17 : decode cX7_counted 17 = .ok (.bipush 7, 2) := by decide +kernel
theorem dX7_counted_19 : decode cX7_counted 19 = .ok (.invokevirtual 187, 3) := by decide +kernel
theorem dX7_counted_22 : decode cX7_counted 22 = .ok (.goto 21, 3) := by decide +kernel
theorem dX7_counted_25 : decode cX7_counted 25 = .ok (.iload_n 1, 1) := by decide +kernel
theorem dX7_counted_26 : decode cX7_counted 26 = .ok (.iconst 2, 1) := by decide +kernel
theorem dX7_counted_27 : decode cX7_counted 27 = .ok (.if_icmp .ne 10, 3) := by decide +kernel
theorem dX7_counted_30 : decode cX7_counted 30 = .ok (.aload_n 0, 1) := by decide +kernel
theorem dX7_counted_31 : decode cX7_counted 31 = .ok (.invokevirtual 193, 3) := by decide +kernel
theorem dX7_counted_34 : decode cX7_counted 34 = .ok (.goto 9, 3) := by decide +kernel
theorem dX7_counted_37 : decode cX7_counted 37 = .ok (.aload_n 0, 1) := by decide +kernel
theorem dX7_counted_38 : decode cX7_counted 38 = .ok (.bipush 8, 2) := by decide +kernel
theorem dX7_counted_40 : decode cX7_counted 40 = .ok (.invokevirtual 187, 3) := by decide +kernel
theorem dX7_counted_43 : decode cX7_counted 43 = .ok (.ireturn, 1) := by decide +kernel
theorem dX7_brought_0 : decode cX7_brought 0 = .ok (.aload_n 0, 1) := by decide +kernel
theorem dX7_brought_1 : decode cX7_brought 1 = .ok (.invokevirtual 199, 3) := by decide +kernel
theorem dX7_brought_4 : decode cX7_brought 4 = .ok (.aload_n 0, 1) := by decide +kernel
theorem dX7_brought_5 : decode cX7_brought 5 = .ok (.iload_n 2, 1) := by decide +kernel
theorem dX7_brought_6 : decode cX7_brought 6 = .ok (.invokevirtual 205, 3) := by decide +kernel
theorem dX7_brought_9 : decode cX7_brought 9 = .ok (.istore_n 3, 1) := by decide +kernel
theorem dX7_brought_10 : decode cX7_brought 10 = .ok (.iconst 0, 1) := by decide +kernel
theorem dX7_brought_11 : decode cX7_brought 11 = .ok (.istore 4, 2) := by decide +kernel
theorem dX7_brought_13 : decode cX7_brought 13 = .ok (.iload 4, 2) := by decide +kernel
theorem dX7_brought_15 : decode cX7_brought 15 = .ok (.iload_n 1, 1) := by decide +kernel
theorem dX7_brought_16 : decode cX7_brought 16 = .ok (.if_icmp .ge 13, 3) := by decide +kernel
theorem dX7_brought_19 : decode cX7_brought 19 = .ok (.aload_n 0, 1) := by decide +kernel
theorem dX7_brought_20 : decode cX7_brought 20 = .ok (.invokevirtual 174, 3) := by decide +kernel
theorem dX7_brought_23 : decode cX7_brought 23 = .ok (.iinc 4 1, 3) := by decide +kernel
theorem dX7_brought_26 : decode cX7_brought 26 = .ok (.goto (-13), 3) := by decide +kernel
theorem dX7_brought_29 : decode cX7_brought 29 = .ok (.aload_n 0, 1) := by decide +kernel
theorem dX7_brought_30 : decode cX7_brought 30 = .ok (.iload_n 2, 1) := by decide +kernel
theorem dX7_brought_31 : decode cX7_brought 31 = .ok (.invokevirtual 205, 3) := by decide +kernel
theorem dX7_brought_34 : decode cX7_brought 34 = .ok (.iload_n 3, 1) := by decide +kernel
theorem dX7_brought_35 : decode cX7_brought 35 = .ok (.isub, 1) := by decide +kernel
theorem dX7_brought_36 : decode cX7_brought 36 = .ok (.istore 4, 2) := by decide +kernel
theorem dX7_brought_38 : decode cX7_brought 38 = .ok (.aload_n 0, 1) := by decide +kernel
theorem dX7_brought_39 : decode cX7_brought 39 = .ok (.invokevirtual 202, 3) := by decide +kernel
theorem dX7_brought_42 : decode cX7_brought 42 = .ok (.iload 4, 2) := by decide +kernel
theorem dX7_brought_44 : decode cX7_brought 44 = .ok (.ireturn, 1) := by decide +kernel
theorem dX7_brings_0 : decode cX7_brings 0 = .ok (.iload_n 1, 1) := by decide +kernel
theorem dX7_brings_1 : decode cX7_brings 1 = .ok (.iconst 1, 1) := by decide +kernel
theorem dX7_brings_2 : decode cX7_brings 2 = .ok (.sipush 200, 3) := by decide +kernel
theorem dX7_brings_5 : decode cX7_brings 5 = .ok (.invokestatic 44, 3) := by decide +kernel
theorem dX7_brings_8 : decode cX7_brings 8 = .ok (.ifCond .eq 21, 3) := by decide +kernel
theorem dX7_brings_11 : decode cX7_brings 11 = .ok (.iload_n 2, 1) := by decide +kernel
theorem dX7_brings_12 : decode cX7_brings 12 = .ok (.iconst 0, 1) := by decide +kernel
theorem dX7_brings_13 : decode cX7_brings 13 = .ok (.iconst 3, 1) := by decide +kernel
theorem dX7_brings_14 : decode cX7_brings 14 = .ok (.invokestatic 44, 3) := by decide +kernel
theorem dX7_brings_17 : decode cX7_brings 17 = .ok (.ifCond .eq 12, 3) := by decide +kernel
theorem dX7_brings_20 : decode cX7_brings 20 = .ok (.aload_n 0, 1) := by decide +kernel
theorem dX7_brings_21 : decode cX7_brings 21 = .ok (.iload_n 1, 1) := by decide +kernel
theorem dX7_brings_22 : decode cX7_brings 22 = .ok (.iload_n 2, 1) := by decide +kernel
theorem dX7_brings_23 : decode cX7_brings 23 = .ok (.invokevirtual 208, 3) := by decide +kernel
theorem dX7_brings_26 : decode cX7_brings 26 = .ok (.goto 5, 3) := by decide +kernel
theorem dX7_brings_29 : decode cX7_brings 29 = .ok (.bipush (-2), 2) := by decide +kernel
theorem dX7_brings_31 : decode cX7_brings 31 = .ok (.ireturn, 1) := by decide +kernel
theorem dX7_bestReach_0 : decode cX7_bestReach 0 = .ok (.iload_n 1, 1) := by decide +kernel
theorem dX7_bestReach_1 : decode cX7_bestReach 1 = .ok (.iconst 1, 1) := by decide +kernel
theorem dX7_bestReach_2 : decode cX7_bestReach 2 = .ok (.sipush 200, 3) := by decide +kernel
theorem dX7_bestReach_5 : decode cX7_bestReach 5 = .ok (.invokestatic 44, 3) := by decide +kernel
theorem dX7_bestReach_8 : decode cX7_bestReach 8 = .ok (.ifCond .ne 6, 3) := by decide +kernel
theorem dX7_bestReach_11 : decode cX7_bestReach 11 = .ok (.bipush (-2), 2) := by decide +kernel
theorem dX7_bestReach_13 : decode cX7_bestReach 13 = .ok (.ireturn, 1) := by decide +kernel
theorem dX7_bestReach_14 : decode cX7_bestReach 14 = .ok (.aload_n 0, 1) := by decide +kernel
theorem dX7_bestReach_15 : decode cX7_bestReach 15 = .ok (.getfield 7, 3) := by decide +kernel
theorem dX7_bestReach_18 : decode cX7_bestReach 18 = .ok (.iconst 1, 1) := by decide +kernel
theorem dX7_bestReach_19 : decode cX7_bestReach 19 = .ok (.iaload, 1) := by decide +kernel
theorem dX7_bestReach_20 : decode cX7_bestReach 20 = .ok (.istore_n 2, 1) := by decide +kernel
theorem dX7_bestReach_21 : decode cX7_bestReach 21 = .ok (.bipush (-6), 2) := by decide +kernel
theorem dX7_bestReach_23 : decode cX7_bestReach 23 = .ok (.istore_n 3, 1) := by decide +kernel
theorem dX7_bestReach_24 : decode cX7_bestReach 24 = .ok (.iconst 0, 1) := by decide +kernel
theorem dX7_bestReach_25 : decode cX7_bestReach 25 = .ok (.istore 4, 2) := by decide +kernel
theorem dX7_bestReach_27 : decode cX7_bestReach 27 = .ok (.iconst 0, 1) := by decide +kernel
theorem dX7_bestReach_28 : decode cX7_bestReach 28 = .ok (.istore 5, 2) := by decide +kernel
theorem dX7_bestReach_30 : decode cX7_bestReach 30 = .ok (.iconst 1, 1) := by decide +kernel
theorem dX7_bestReach_31 : decode cX7_bestReach 31 = .ok (.istore 6, 2) := by decide +kernel
theorem dX7_bestReach_33 : decode cX7_bestReach 33 = .ok (.iload 6, 2) := by decide +kernel
theorem dX7_bestReach_35 : decode cX7_bestReach 35 = .ok (.bipush 60, 2) := by decide +kernel
theorem dX7_bestReach_37 : decode cX7_bestReach 37 = .ok (.if_icmp .gt 84, 3) := by decide +kernel
theorem dX7_bestReach_40 : decode cX7_bestReach 40 = .ok (.aload_n 0, 1) := by decide +kernel
theorem dX7_bestReach_41 : decode cX7_bestReach 41 = .ok (.getfield 7, 3) := by decide +kernel
theorem dX7_bestReach_44 : decode cX7_bestReach 44 = .ok (.iconst 1, 1) := by decide +kernel
theorem dX7_bestReach_45 : decode cX7_bestReach 45 = .ok (.iload 6, 2) := by decide +kernel
theorem dX7_bestReach_47 : decode cX7_bestReach 47 = .ok (.iastore, 1) := by decide +kernel
theorem dX7_bestReach_48 : decode cX7_bestReach 48 = .ok (.aload_n 0, 1) := by decide +kernel
theorem dX7_bestReach_49 : decode cX7_bestReach 49 = .ok (.iload_n 1, 1) := by decide +kernel
theorem dX7_bestReach_50 : decode cX7_bestReach 50 = .ok (.iconst 0, 1) := by decide +kernel
theorem dX7_bestReach_51 : decode cX7_bestReach 51 = .ok (.invokevirtual 208, 3) := by decide +kernel
theorem dX7_bestReach_54 : decode cX7_bestReach 54 = .ok (.istore 7, 2) := by decide +kernel
theorem dX7_bestReach_56 : decode cX7_bestReach 56 = .ok (.iload_n 3, 1) := by decide +kernel
theorem dX7_bestReach_57 : decode cX7_bestReach 57 = .ok (.ifCond .lt 10, 3) := by decide +kernel
theorem dX7_bestReach_60 : decode cX7_bestReach 60 = .ok (.iload 7, 2) := by decide +kernel
theorem dX7_bestReach_62 : decode cX7_bestReach 62 = .ok (.iload 4, 2) := by decide +kernel
theorem dX7_bestReach_64 : decode cX7_bestReach 64 = .ok (.if_icmp .gt 12, 3) := by decide +kernel
theorem dX7_bestReach_67 : decode cX7_bestReach 67 = .ok (.aload_n 0, 1) := by decide +kernel
theorem dX7_bestReach_68 : decode cX7_bestReach 68 = .ok (.iload_n 1, 1) := by decide +kernel
theorem dX7_bestReach_69 : decode cX7_bestReach 69 = .ok (.iconst 1, 1) := by decide +kernel
theorem dX7_bestReach_70 : decode cX7_bestReach 70 = .ok (.invokevirtual 208, 3) := by decide +kernel
theorem dX7_bestReach_73 : decode cX7_bestReach 73 = .ok (.goto 4, 3) := by decide +kernel
theorem dX7_bestReach_76 : decode cX7_bestReach 76 = .ok (.iconst 0, 1) := by decide +kernel
theorem dX7_bestReach_77 : decode cX7_bestReach 77 = .ok (.istore 8, 2) := by decide +kernel
theorem dX7_bestReach_79 : decode cX7_bestReach 79 = .ok (.iload_n 3, 1) := by decide +kernel
theorem dX7_bestReach_80 : decode cX7_bestReach 80 = .ok (.ifCond .lt 24, 3) := by decide +kernel
theorem dX7_bestReach_83 : decode cX7_bestReach 83 = .ok (.iload 7, 2) := by decide +kernel
theorem dX7_bestReach_85 : decode cX7_bestReach 85 = .ok (.iload 4, 2) := by decide +kernel
theorem dX7_bestReach_87 : decode cX7_bestReach 87 = .ok (.if_icmp .lt 17, 3) := by decide +kernel
theorem dX7_bestReach_90 : decode cX7_bestReach 90 = .ok (.iload 7, 2) := by decide +kernel
theorem dX7_bestReach_92 : decode cX7_bestReach 92 = .ok (.iload 4, 2) := by decide +kernel
theorem dX7_bestReach_94 : decode cX7_bestReach 94 = .ok (.if_icmp .ne 21, 3) := by decide +kernel
theorem dX7_bestReach_97 : decode cX7_bestReach 97 = .ok (.iload 8, 2) := by decide +kernel
theorem dX7_bestReach_99 : decode cX7_bestReach 99 = .ok (.iload 5, 2) := by decide +kernel
theorem dX7_bestReach_101 : decode cX7_bestReach 101 = .ok (.if_icmp .ge 14, 3) := by decide +kernel
theorem dX7_bestReach_104 : decode cX7_bestReach 104 = .ok (.iload 6, 2) := by decide +kernel
theorem dX7_bestReach_106 : decode cX7_bestReach 106 = .ok (.istore_n 3, 1) := by decide +kernel
theorem dX7_bestReach_107 : decode cX7_bestReach 107 = .ok (.iload 7, 2) := by decide +kernel
theorem dX7_bestReach_109 : decode cX7_bestReach 109 = .ok (.istore 4, 2) := by decide +kernel
theorem dX7_bestReach_111 : decode cX7_bestReach 111 = .ok (.iload 8, 2) := by decide +kernel
theorem dX7_bestReach_113 : decode cX7_bestReach 113 = .ok (.istore 5, 2) := by decide +kernel
theorem dX7_bestReach_115 : decode cX7_bestReach 115 = .ok (.iinc 6 1, 3) := by decide +kernel
theorem dX7_bestReach_118 : decode cX7_bestReach 118 = .ok (.goto (-85), 3) := by decide +kernel
theorem dX7_bestReach_121 : decode cX7_bestReach 121 = .ok (.aload_n 0, 1) := by decide +kernel
theorem dX7_bestReach_122 : decode cX7_bestReach 122 = .ok (.getfield 7, 3) := by decide +kernel
theorem dX7_bestReach_125 : decode cX7_bestReach 125 = .ok (.iconst 1, 1) := by decide +kernel
theorem dX7_bestReach_126 : decode cX7_bestReach 126 = .ok (.iload_n 2, 1) := by decide +kernel
theorem dX7_bestReach_127 : decode cX7_bestReach 127 = .ok (.iastore, 1) := by decide +kernel
theorem dX7_bestReach_128 : decode cX7_bestReach 128 = .ok (.iload_n 3, 1) := by decide +kernel
theorem dX7_bestReach_129 : decode cX7_bestReach 129 = .ok (.ireturn, 1) := by decide +kernel
theorem dX7_darkWithout_0 : decode cX7_darkWithout 0 = .ok (.aload_n 0, 1) := by decide +kernel
theorem dX7_darkWithout_1 : decode cX7_darkWithout 1 = .ok (.invokevirtual 199, 3) := by decide +kernel
theorem dX7_darkWithout_4 : decode cX7_darkWithout 4 = .ok (.aload_n 0, 1) := by decide +kernel
theorem dX7_darkWithout_5 : decode cX7_darkWithout 5 = .ok (.invokevirtual 190, 3) := by decide +kernel
theorem dX7_darkWithout_8 : decode cX7_darkWithout 8 = .ok (.istore_n 2, 1) := by decide +kernel
theorem dX7_darkWithout_9 : decode cX7_darkWithout 9 = .ok (.aload_n 0, 1) := by decide +kernel
theorem dX7_darkWithout_10 : decode cX7_darkWithout 10 = .ok (.iload_n 1, 1) := by decide +kernel
theorem dX7_darkWithout_11 : decode cX7_darkWithout 11 = .ok (.iconst 2, 1) := by decide +kernel
theorem dX7_darkWithout_12 : decode cX7_darkWithout 12 = .ok (.invokevirtual 163, 3) := by decide +kernel
theorem dX7_darkWithout_15 : decode cX7_darkWithout 15 = .ok (.iconst 0, 1) := by decide +kernel
theorem dX7_darkWithout_16 : decode cX7_darkWithout 16 = .ok (.istore_n 3, 1) := by decide +kernel
theorem dX7_darkWithout_17 : decode cX7_darkWithout 17 = .ok (.iload_n 3, 1) := by decide +kernel
theorem dX7_darkWithout_18 : decode cX7_darkWithout 18 = .ok (.bipush 100, 2) := by decide +kernel
theorem dX7_darkWithout_20 : decode cX7_darkWithout 20 = .ok (.if_icmp .ge 13, 3) := by decide +kernel
theorem dX7_darkWithout_23 : decode cX7_darkWithout 23 = .ok (.aload_n 0, 1) := by decide +kernel
theorem dX7_darkWithout_24 : decode cX7_darkWithout 24 = .ok (.invokevirtual 174, 3) := by decide +kernel
theorem dX7_darkWithout_27 : decode cX7_darkWithout 27 = .ok (.iinc 3 1, 3) := by decide +kernel
theorem dX7_darkWithout_30 : decode cX7_darkWithout 30 = .ok (.goto (-13), 3) := by decide +kernel
theorem dX7_darkWithout_33 : decode cX7_darkWithout 33 = .ok (.aload_n 0, 1) := by decide +kernel
theorem dX7_darkWithout_34 : decode cX7_darkWithout 34 = .ok (.invokevirtual 190, 3) := by decide +kernel
theorem dX7_darkWithout_37 : decode cX7_darkWithout 37 = .ok (.iload_n 2, 1) := by decide +kernel
theorem dX7_darkWithout_38 : decode cX7_darkWithout 38 = .ok (.isub, 1) := by decide +kernel
theorem dX7_darkWithout_39 : decode cX7_darkWithout 39 = .ok (.istore_n 3, 1) := by decide +kernel
theorem dX7_darkWithout_40 : decode cX7_darkWithout 40 = .ok (.aload_n 0, 1) := by decide +kernel
theorem dX7_darkWithout_41 : decode cX7_darkWithout 41 = .ok (.invokevirtual 202, 3) := by decide +kernel
theorem dX7_darkWithout_44 : decode cX7_darkWithout 44 = .ok (.iload_n 3, 1) := by decide +kernel
theorem dX7_darkWithout_45 : decode cX7_darkWithout 45 = .ok (.ireturn, 1) := by decide +kernel
theorem dX7_needless_0 : decode cX7_needless 0 = .ok (.aload_n 0, 1) := by decide +kernel
theorem dX7_needless_1 : decode cX7_needless 1 = .ok (.bipush 100, 2) := by decide +kernel
theorem dX7_needless_3 : decode cX7_needless 3 = .ok (.iconst 0, 1) := by decide +kernel
theorem dX7_needless_4 : decode cX7_needless 4 = .ok (.invokevirtual 208, 3) := by decide +kernel
theorem dX7_needless_7 : decode cX7_needless 7 = .ok (.istore_n 1, 1) := by decide +kernel
theorem dX7_needless_8 : decode cX7_needless 8 = .ok (.iconst 0, 1) := by decide +kernel
theorem dX7_needless_9 : decode cX7_needless 9 = .ok (.istore_n 2, 1) := by decide +kernel
theorem dX7_needless_10 : decode cX7_needless 10 = .ok (.iconst 0, 1) := by decide +kernel
theorem dX7_needless_11 : decode cX7_needless 11 = .ok (.istore_n 3, 1) := by decide +kernel
theorem dX7_needless_12 : decode cX7_needless 12 = .ok (.iload_n 3, 1) := by decide +kernel
theorem dX7_needless_13 : decode cX7_needless 13 = .ok (.aload_n 0, 1) := by decide +kernel
theorem dX7_needless_14 : decode cX7_needless 14 = .ok (.getfield 7, 3) := by decide +kernel
theorem dX7_needless_17 : decode cX7_needless 17 = .ok (.bipush 7, 2) := by decide +kernel
theorem dX7_needless_19 : decode cX7_needless 19 = .ok (.iaload, 1) := by decide +kernel
theorem dX7_needless_20 : decode cX7_needless 20 = .ok (.if_icmp .ge 28, 3) := by decide +kernel
theorem dX7_needless_23 : decode cX7_needless 23 = .ok (.iload_n 2, 1) := by decide +kernel
theorem dX7_needless_24 : decode cX7_needless 24 = .ok (.aload_n 0, 1) := by decide +kernel
theorem dX7_needless_25 : decode cX7_needless 25 = .ok (.iload_n 3, 1) := by decide +kernel
theorem dX7_needless_26 : decode cX7_needless 26 = .ok (.invokevirtual 211, 3) := by decide +kernel
theorem dX7_needless_29 : decode cX7_needless 29 = .ok (.iload_n 1, 1) := by decide +kernel
theorem dX7_needless_30 : decode cX7_needless 30 = .ok (.if_icmp .gt 9, 3) := by decide +kernel
theorem dX7_needless_33 : decode cX7_needless 33 = .ok (.iconst 1, 1) := by decide +kernel
theorem dX7_needless_34 : decode cX7_needless 34 = .ok (.iload_n 3, 1) := by decide +kernel
theorem dX7_needless_35 : decode cX7_needless 35 = .ok (.ishl, 1) := by decide +kernel
theorem dX7_needless_36 : decode cX7_needless 36 = .ok (.goto 4, 3) := by decide +kernel
theorem dX7_needless_39 : decode cX7_needless 39 = .ok (.iconst 0, 1) := by decide +kernel
theorem dX7_needless_40 : decode cX7_needless 40 = .ok (.ior, 1) := by decide +kernel
theorem dX7_needless_41 : decode cX7_needless 41 = .ok (.istore_n 2, 1) := by decide +kernel
theorem dX7_needless_42 : decode cX7_needless 42 = .ok (.iinc 3 1, 3) := by decide +kernel
theorem dX7_needless_45 : decode cX7_needless 45 = .ok (.goto (-33), 3) := by decide +kernel
theorem dX7_needless_48 : decode cX7_needless 48 = .ok (.iload_n 2, 1) := by decide +kernel
theorem dX7_needless_49 : decode cX7_needless 49 = .ok (.ireturn, 1) := by decide +kernel
theorem dX7_put_0 : decode cX7_put 0 = .ok (.iconst 0, 1) := by decide +kernel
theorem dX7_put_1 : decode cX7_put 1 = .ok (.istore_n 3, 1) := by decide +kernel
theorem dX7_put_2 : decode cX7_put 2 = .ok (.lload_n 1, 1) := by decide +kernel
theorem dX7_put_3 : decode cX7_put 3 = .ok (.lstore 4, 2) := by decide +kernel
theorem dX7_put_5 : decode cX7_put 5 = .ok (.iload_n 3, 1) := by decide +kernel
theorem dX7_put_6 : decode cX7_put 6 = .ok (.bipush 8, 2) := by decide +kernel
theorem dX7_put_8 : decode cX7_put 8 = .ok (.if_icmp .ge 47, 3) := by decide +kernel
theorem dX7_put_11 : decode cX7_put 11 = .ok (.lload 4, 2) := by decide +kernel
theorem dX7_put_13 : decode cX7_put 13 = .ok (.ldc2_w 214, 3) := by decide +kernel
theorem dX7_put_16 : decode cX7_put 16 = .ok (.land, 1) := by decide +kernel
theorem dX7_put_17 : decode cX7_put 17 = .ok (.lconst 0, 1) := by decide +kernel
theorem dX7_put_18 : decode cX7_put 18 = .ok (.lcmp, 1) := by decide +kernel
theorem dX7_put_19 : decode cX7_put 19 = .ok (.ifCond .eq 36, 3) := by decide +kernel
theorem dX7_put_22 : decode cX7_put 22 = .ok (.lload 4, 2) := by decide +kernel
theorem dX7_put_24 : decode cX7_put 24 = .ok (.ldc2_w 214, 3) := by decide +kernel
theorem dX7_put_27 : decode cX7_put 27 = .ok (.land, 1) := by decide +kernel
theorem dX7_put_28 : decode cX7_put 28 = .ok (.l2i, 1) := by decide +kernel
theorem dX7_put_29 : decode cX7_put 29 = .ok (.bipush 33, 2) := by decide +kernel
theorem dX7_put_31 : decode cX7_put 31 = .ok (.bipush 126, 2) := by decide +kernel
theorem dX7_put_33 : decode cX7_put 33 = .ok (.invokestatic 44, 3) := by decide +kernel
theorem dX7_put_36 : decode cX7_put 36 = .ok (.ifCond .ne 6, 3) := by decide +kernel
theorem dX7_put_39 : decode cX7_put 39 = .ok (.bipush (-2), 2) := by decide +kernel
theorem dX7_put_41 : decode cX7_put 41 = .ok (.ireturn, 1) := by decide +kernel
theorem dX7_put_42 : decode cX7_put 42 = .ok (.iinc 3 1, 3) := by decide +kernel
theorem dX7_put_45 : decode cX7_put 45 = .ok (.lload 4, 2) := by decide +kernel
theorem dX7_put_47 : decode cX7_put 47 = .ok (.bipush 8, 2) := by decide +kernel
theorem dX7_put_49 : decode cX7_put 49 = .ok (.lushr, 1) := by decide +kernel
theorem dX7_put_50 : decode cX7_put 50 = .ok (.lstore 4, 2) := by decide +kernel
theorem dX7_put_52 : decode cX7_put 52 = .ok (.goto (-47), 3) := by decide +kernel
theorem dX7_put_55 : decode cX7_put 55 = .ok (.iload_n 3, 1) := by decide +kernel
theorem dX7_put_56 : decode cX7_put 56 = .ok (.ifCond .eq 10, 3) := by decide +kernel
theorem dX7_put_59 : decode cX7_put 59 = .ok (.lload 4, 2) := by decide +kernel
theorem dX7_put_61 : decode cX7_put 61 = .ok (.lconst 0, 1) := by decide +kernel
theorem dX7_put_62 : decode cX7_put 62 = .ok (.lcmp, 1) := by decide +kernel
theorem dX7_put_63 : decode cX7_put 63 = .ok (.ifCond .eq 6, 3) := by decide +kernel
theorem dX7_put_66 : decode cX7_put 66 = .ok (.bipush (-2), 2) := by decide +kernel
theorem dX7_put_68 : decode cX7_put 68 = .ok (.ireturn, 1) := by decide +kernel
theorem dX7_put_69 : decode cX7_put 69 = .ok (.aload_n 0, 1) := by decide +kernel
theorem dX7_put_70 : decode cX7_put 70 = .ok (.getfield 196, 3) := by decide +kernel
theorem dX7_put_73 : decode cX7_put 73 = .ok (.iload_n 3, 1) := by decide +kernel
theorem dX7_put_74 : decode cX7_put 74 = .ok (.iadd, 1) := by decide +kernel
theorem dX7_put_75 : decode cX7_put 75 = .ok (.bipush 80, 2) := by decide +kernel
theorem dX7_put_77 : decode cX7_put 77 = .ok (.if_icmp .le 6, 3) := by decide +kernel
theorem dX7_put_80 : decode cX7_put 80 = .ok (.bipush (-4), 2) := by decide +kernel
theorem dX7_put_82 : decode cX7_put 82 = .ok (.ireturn, 1) := by decide +kernel
theorem dX7_put_83 : decode cX7_put 83 = .ok (.iconst 0, 1) := by decide +kernel
theorem dX7_put_84 : decode cX7_put 84 = .ok (.istore 6, 2) := by decide +kernel
theorem dX7_put_86 : decode cX7_put 86 = .ok (.iload 6, 2) := by decide +kernel
theorem dX7_put_88 : decode cX7_put 88 = .ok (.iload_n 3, 1) := by decide +kernel
theorem dX7_put_89 : decode cX7_put 89 = .ok (.if_icmp .ge 37, 3) := by decide +kernel
theorem dX7_put_92 : decode cX7_put 92 = .ok (.aload_n 0, 1) := by decide +kernel
theorem dX7_put_93 : decode cX7_put 93 = .ok (.getfield 32, 3) := by decide +kernel
theorem dX7_put_96 : decode cX7_put 96 = .ok (.aload_n 0, 1) := by decide +kernel
theorem dX7_put_97 : decode cX7_put 97 = .ok (.getfield 196, 3) := by decide +kernel
theorem dX7_put_100 : decode cX7_put 100 = .ok (.iload 6, 2) := by decide +kernel
theorem dX7_put_102 : decode cX7_put 102 = .ok (.iadd, 1) := by decide +kernel
theorem dX7_put_103 : decode cX7_put 103 = .ok (.lload_n 1, 1) := by decide +kernel
theorem dX7_put_104 : decode cX7_put 104 = .ok (.bipush 8, 2) := by decide +kernel
theorem dX7_put_106 : decode cX7_put 106 = .ok (.iload_n 3, 1) := by decide +kernel
theorem dX7_put_107 : decode cX7_put 107 = .ok (.iconst 1, 1) := by decide +kernel
theorem dX7_put_108 : decode cX7_put 108 = .ok (.isub, 1) := by decide +kernel
theorem dX7_put_109 : decode cX7_put 109 = .ok (.iload 6, 2) := by decide +kernel
theorem dX7_put_111 : decode cX7_put 111 = .ok (.isub, 1) := by decide +kernel
theorem dX7_put_112 : decode cX7_put 112 = .ok (.imul, 1) := by decide +kernel
theorem dX7_put_113 : decode cX7_put 113 = .ok (.lshr, 1) := by decide +kernel
theorem dX7_put_114 : decode cX7_put 114 = .ok (.ldc2_w 214, 3) := by decide +kernel
theorem dX7_put_117 : decode cX7_put 117 = .ok (.land, 1) := by decide +kernel
theorem dX7_put_118 : decode cX7_put 118 = .ok (.l2i, 1) := by decide +kernel
theorem dX7_put_119 : decode cX7_put 119 = .ok (.iastore, 1) := by decide +kernel
theorem dX7_put_120 : decode cX7_put 120 = .ok (.iinc 6 1, 3) := by decide +kernel
theorem dX7_put_123 : decode cX7_put 123 = .ok (.goto (-37), 3) := by decide +kernel
theorem dX7_put_126 : decode cX7_put 126 = .ok (.aload_n 0, 1) := by decide +kernel
theorem dX7_put_127 : decode cX7_put 127 = .ok (.dup, 1) := by decide +kernel
theorem dX7_put_128 : decode cX7_put 128 = .ok (.getfield 196, 3) := by decide +kernel
theorem dX7_put_131 : decode cX7_put 131 = .ok (.iload_n 3, 1) := by decide +kernel
theorem dX7_put_132 : decode cX7_put 132 = .ok (.iadd, 1) := by decide +kernel
theorem dX7_put_133 : decode cX7_put 133 = .ok (.putfield 196, 3) := by decide +kernel
theorem dX7_put_136 : decode cX7_put 136 = .ok (.aload_n 0, 1) := by decide +kernel
theorem dX7_put_137 : decode cX7_put 137 = .ok (.getfield 196, 3) := by decide +kernel
theorem dX7_put_140 : decode cX7_put 140 = .ok (.ireturn, 1) := by decide +kernel
theorem dX7_wipe_0 : decode cX7_wipe 0 = .ok (.aload_n 0, 1) := by decide +kernel
theorem dX7_wipe_1 : decode cX7_wipe 1 = .ok (.getfield 196, 3) := by decide +kernel
theorem dX7_wipe_4 : decode cX7_wipe 4 = .ok (.istore_n 1, 1) := by decide +kernel
theorem dX7_wipe_5 : decode cX7_wipe 5 = .ok (.aload_n 0, 1) := by decide +kernel
theorem dX7_wipe_6 : decode cX7_wipe 6 = .ok (.iconst 0, 1) := by decide +kernel
theorem dX7_wipe_7 : decode cX7_wipe 7 = .ok (.putfield 196, 3) := by decide +kernel
theorem dX7_wipe_10 : decode cX7_wipe 10 = .ok (.iload_n 1, 1) := by decide +kernel
theorem dX7_wipe_11 : decode cX7_wipe 11 = .ok (.ireturn, 1) := by decide +kernel
theorem dX7_next_0 : decode cX7_next 0 = .ok (.aload_n 0, 1) := by decide +kernel
theorem dX7_next_1 : decode cX7_next 1 = .ok (.getfield 216, 3) := by decide +kernel
theorem dX7_next_4 : decode cX7_next 4 = .ok (.aload_n 0, 1) := by decide +kernel
theorem dX7_next_5 : decode cX7_next 5 = .ok (.getfield 196, 3) := by decide +kernel
theorem dX7_next_8 : decode cX7_next 8 = .ok (.if_icmp .ge 15, 3) := by decide +kernel
theorem dX7_next_11 : decode cX7_next 11 = .ok (.aload_n 0, 1) := by decide +kernel
theorem dX7_next_12 : decode cX7_next 12 = .ok (.getfield 32, 3) := by decide +kernel
theorem dX7_next_15 : decode cX7_next 15 = .ok (.aload_n 0, 1) := by decide +kernel
theorem dX7_next_16 : decode cX7_next 16 = .ok (.getfield 216, 3) := by decide +kernel
theorem dX7_next_19 : decode cX7_next 19 = .ok (.iaload, 1) := by decide +kernel
theorem dX7_next_20 : decode cX7_next 20 = .ok (.goto 4, 3) := by decide +kernel
theorem dX7_next_23 : decode cX7_next 23 = .ok (.iconst 0, 1) := by decide +kernel
theorem dX7_next_24 : decode cX7_next 24 = .ok (.ireturn, 1) := by decide +kernel
theorem dX7_takeSign_0 : decode cX7_takeSign 0 = .ok (.aload_n 0, 1) := by decide +kernel
theorem dX7_takeSign_1 : decode cX7_takeSign 1 = .ok (.aload_n 0, 1) := by decide +kernel
theorem dX7_takeSign_2 : decode cX7_takeSign 2 = .ok (.getfield 219, 3) := by decide +kernel
theorem dX7_takeSign_5 : decode cX7_takeSign 5 = .ok (.ifCond .ne 11, 3) := by decide +kernel
theorem dX7_takeSign_8 : decode cX7_takeSign 8 = .ok (.aload_n 0, 1) := by decide +kernel
theorem dX7_takeSign_9 : decode cX7_takeSign 9 = .ok (.invokevirtual 223, 3) := by decide +kernel
theorem dX7_takeSign_12 : decode cX7_takeSign 12 = .ok (.iload_n 1, 1) := by decide +kernel
theorem dX7_takeSign_13 : decode cX7_takeSign 13 = .ok (.if_icmp .eq 7, 3) := by decide +kernel
theorem dX7_takeSign_16 : decode cX7_takeSign 16 = .ok (.iconst 1, 1) := by decide +kernel
theorem dX7_takeSign_17 : decode cX7_takeSign 17 = .ok (.goto 4, 3) := by decide +kernel
theorem dX7_takeSign_20 : decode cX7_takeSign 20 = .ok (.iconst 0, 1) := by decide +kernel
theorem dX7_takeSign_21 : decode cX7_takeSign 21 = .ok (.putfield 219, 3) := by decide +kernel
theorem dX7_takeSign_24 : decode cX7_takeSign 24 = .ok (.aload_n 0, 1) := by decide +kernel
theorem dX7_takeSign_25 : decode cX7_takeSign 25 = .ok (.dup, 1) := by decide +kernel
theorem dX7_takeSign_26 : decode cX7_takeSign 26 = .ok (.getfield 216, 3) := by decide +kernel
theorem dX7_takeSign_29 : decode cX7_takeSign 29 = .ok (.aload_n 0, 1) := by decide +kernel
theorem dX7_takeSign_30 : decode cX7_takeSign 30 = .ok (.getfield 219, 3) := by decide +kernel
theorem dX7_takeSign_33 : decode cX7_takeSign 33 = .ok (.ifCond .eq 7, 3) := by decide +kernel
theorem dX7_takeSign_36 : decode cX7_takeSign 36 = .ok (.iconst 0, 1) := by decide +kernel
theorem dX7_takeSign_37 : decode cX7_takeSign 37 = .ok (.goto 4, 3) := by decide +kernel
theorem dX7_takeSign_40 : decode cX7_takeSign 40 = .ok (.iconst 1, 1) := by decide +kernel
theorem dX7_takeSign_41 : decode cX7_takeSign 41 = .ok (.iadd, 1) := by decide +kernel
theorem dX7_takeSign_42 : decode cX7_takeSign 42 = .ok (.putfield 216, 3) := by decide +kernel
theorem dX7_takeSign_45 : decode cX7_takeSign 45 = .ok (.return_, 1) := by decide +kernel
theorem dX7_enter_0 : decode cX7_enter 0 = .ok (.aload_n 0, 1) := by decide +kernel
theorem dX7_enter_1 : decode cX7_enter 1 = .ok (.getfield 41, 3) := by decide +kernel
theorem dX7_enter_4 : decode cX7_enter 4 = .ok (.aload_n 0, 1) := by decide +kernel
theorem dX7_enter_5 : decode cX7_enter 5 = .ok (.getfield 226, 3) := by decide +kernel
theorem dX7_enter_8 : decode cX7_enter 8 = .ok (.iload_n 1, 1) := by decide +kernel
theorem dX7_enter_9 : decode cX7_enter 9 = .ok (.iastore, 1) := by decide +kernel
theorem dX7_enter_10 : decode cX7_enter 10 = .ok (.aload_n 0, 1) := by decide +kernel
theorem dX7_enter_11 : decode cX7_enter 11 = .ok (.dup, 1) := by decide +kernel
theorem dX7_enter_12 : decode cX7_enter 12 = .ok (.getfield 226, 3) := by decide +kernel
theorem dX7_enter_15 : decode cX7_enter 15 = .ok (.iconst 1, 1) := by decide +kernel
theorem dX7_enter_16 : decode cX7_enter 16 = .ok (.iadd, 1) := by decide +kernel
theorem dX7_enter_17 : decode cX7_enter 17 = .ok (.putfield 226, 3) := by decide +kernel
theorem dX7_enter_20 : decode cX7_enter 20 = .ok (.return_, 1) := by decide +kernel
theorem dX7_takeNumber_0 : decode cX7_takeNumber 0 = .ok (.aload_n 0, 1) := by decide +kernel
theorem dX7_takeNumber_1 : decode cX7_takeNumber 1 = .ok (.aload_n 0, 1) := by decide +kernel
theorem dX7_takeNumber_2 : decode cX7_takeNumber 2 = .ok (.getfield 219, 3) := by decide +kernel
theorem dX7_takeNumber_5 : decode cX7_takeNumber 5 = .ok (.ifCond .ne 17, 3) := by decide +kernel
theorem dX7_takeNumber_8 : decode cX7_takeNumber 8 = .ok (.aload_n 0, 1) := by decide +kernel
theorem dX7_takeNumber_9 : decode cX7_takeNumber 9 = .ok (.invokevirtual 223, 3) := by decide +kernel
theorem dX7_takeNumber_12 : decode cX7_takeNumber 12 = .ok (.bipush 48, 2) := by decide +kernel
theorem dX7_takeNumber_14 : decode cX7_takeNumber 14 = .ok (.bipush 57, 2) := by decide +kernel
theorem dX7_takeNumber_16 : decode cX7_takeNumber 16 = .ok (.invokestatic 44, 3) := by decide +kernel
theorem dX7_takeNumber_19 : decode cX7_takeNumber 19 = .ok (.ifCond .ne 7, 3) := by decide +kernel
theorem dX7_takeNumber_22 : decode cX7_takeNumber 22 = .ok (.iconst 1, 1) := by decide +kernel
theorem dX7_takeNumber_23 : decode cX7_takeNumber 23 = .ok (.goto 4, 3) := by decide +kernel
theorem dX7_takeNumber_26 : decode cX7_takeNumber 26 = .ok (.iconst 0, 1) := by decide +kernel
theorem dX7_takeNumber_27 : decode cX7_takeNumber 27 = .ok (.putfield 219, 3) := by decide +kernel
theorem dX7_takeNumber_30 : decode cX7_takeNumber 30 = .ok (.aload_n 0, 1) := by decide +kernel
theorem dX7_takeNumber_31 : decode cX7_takeNumber 31 = .ok (.getfield 219, 3) := by decide +kernel
theorem dX7_takeNumber_34 : decode cX7_takeNumber 34 = .ok (.ifCond .eq 4, 3) := by decide +kernel
theorem dX7_takeNumber_37 : decode cX7_takeNumber 37 = .ok (.return_, 1) := by decide +kernel
theorem dX7_takeNumber_38 : decode cX7_takeNumber 38 = .ok (.aload_n 0, 1) := by decide +kernel
theorem dX7_takeNumber_39 : decode cX7_takeNumber 39 = .ok (.invokevirtual 223, 3) := by decide +kernel
theorem dX7_takeNumber_42 : decode cX7_takeNumber 42 = .ok (.bipush 48, 2) := by decide +kernel
theorem dX7_takeNumber_44 : decode cX7_takeNumber 44 = .ok (.isub, 1) := by decide +kernel
theorem dX7_takeNumber_45 : decode cX7_takeNumber 45 = .ok (.istore_n 1, 1) := by decide +kernel
theorem dX7_takeNumber_46 : decode cX7_takeNumber 46 = .ok (.aload_n 0, 1) := by decide +kernel
theorem dX7_takeNumber_47 : decode cX7_takeNumber 47 = .ok (.dup, 1) := by decide +kernel
theorem dX7_takeNumber_48 : decode cX7_takeNumber 48 = .ok (.getfield 216, 3) := by decide +kernel
theorem dX7_takeNumber_51 : decode cX7_takeNumber 51 = .ok (.iconst 1, 1) := by decide +kernel
theorem dX7_takeNumber_52 : decode cX7_takeNumber 52 = .ok (.iadd, 1) := by decide +kernel
theorem dX7_takeNumber_53 : decode cX7_takeNumber 53 = .ok (.putfield 216, 3) := by decide +kernel
theorem dX7_takeNumber_56 : decode cX7_takeNumber 56 = .ok (.aload_n 0, 1) := by decide +kernel
theorem dX7_takeNumber_57 : decode cX7_takeNumber 57 = .ok (.getfield 219, 3) := by decide +kernel
theorem dX7_takeNumber_60 : decode cX7_takeNumber 60 = .ok (.ifCond .ne 96, 3) := by decide +kernel
theorem dX7_takeNumber_63 : decode cX7_takeNumber 63 = .ok (.iload_n 1, 1) := by decide +kernel
theorem dX7_takeNumber_64 : decode cX7_takeNumber 64 = .ok (.ifCond .le 92, 3) := by decide +kernel
theorem dX7_takeNumber_67 : decode cX7_takeNumber 67 = .ok (.aload_n 0, 1) := by decide +kernel
theorem dX7_takeNumber_68 : decode cX7_takeNumber 68 = .ok (.invokevirtual 223, 3) := by decide +kernel
theorem dX7_takeNumber_71 : decode cX7_takeNumber 71 = .ok (.bipush 48, 2) := by decide +kernel
theorem dX7_takeNumber_73 : decode cX7_takeNumber 73 = .ok (.bipush 57, 2) := by decide +kernel
theorem dX7_takeNumber_75 : decode cX7_takeNumber 75 = .ok (.invokestatic 44, 3) := by decide +kernel
theorem dX7_takeNumber_78 : decode cX7_takeNumber 78 = .ok (.ifCond .eq 78, 3) := by decide +kernel
theorem dX7_takeNumber_81 : decode cX7_takeNumber 81 = .ok (.aload_n 0, 1) := by decide +kernel
theorem dX7_takeNumber_82 : decode cX7_takeNumber 82 = .ok (.bipush 10, 2) := by decide +kernel
theorem dX7_takeNumber_84 : decode cX7_takeNumber 84 = .ok (.iload_n 1, 1) := by decide +kernel
theorem dX7_takeNumber_85 : decode cX7_takeNumber 85 = .ok (.imul, 1) := by decide +kernel
theorem dX7_takeNumber_86 : decode cX7_takeNumber 86 = .ok (.aload_n 0, 1) := by decide +kernel
theorem dX7_takeNumber_87 : decode cX7_takeNumber 87 = .ok (.invokevirtual 223, 3) := by decide +kernel
theorem dX7_takeNumber_90 : decode cX7_takeNumber 90 = .ok (.iadd, 1) := by decide +kernel
theorem dX7_takeNumber_91 : decode cX7_takeNumber 91 = .ok (.bipush 48, 2) := by decide +kernel
theorem dX7_takeNumber_93 : decode cX7_takeNumber 93 = .ok (.isub, 1) := by decide +kernel
theorem dX7_takeNumber_94 : decode cX7_takeNumber 94 = .ok (.sipush 999, 3) := by decide +kernel
theorem dX7_takeNumber_97 : decode cX7_takeNumber 97 = .ok (.if_icmp .le 7, 3) := by decide +kernel
theorem dX7_takeNumber_100 : decode cX7_takeNumber 100 = .ok (.iconst 1, 1) := by decide +kernel
theorem dX7_takeNumber_101 : decode cX7_takeNumber 101 = .ok (.goto 4, 3) := by decide +kernel
theorem dX7_takeNumber_104 : decode cX7_takeNumber 104 = .ok (.iconst 0, 1) := by decide +kernel
theorem dX7_takeNumber_105 : decode cX7_takeNumber 105 = .ok (.putfield 219, 3) := by decide +kernel
theorem dX7_takeNumber_108 : decode cX7_takeNumber 108 = .ok (.aload_n 0, 1) := by decide +kernel
theorem dX7_takeNumber_109 : decode cX7_takeNumber 109 = .ok (.getfield 219, 3) := by decide +kernel
theorem dX7_takeNumber_112 : decode cX7_takeNumber 112 = .ok (.ifCond .eq 7, 3) := by decide +kernel
theorem dX7_takeNumber_115 : decode cX7_takeNumber 115 = .ok (.iload_n 1, 1) := by decide +kernel
theorem dX7_takeNumber_116 : decode cX7_takeNumber 116 = .ok (.goto 15, 3) := by decide +kernel
theorem dX7_takeNumber_119 : decode cX7_takeNumber 119 = .ok (.bipush 10, 2) := by decide +kernel
theorem dX7_takeNumber_121 : decode cX7_takeNumber 121 = .ok (.iload_n 1, 1) := by decide +kernel
theorem dX7_takeNumber_122 : decode cX7_takeNumber 122 = .ok (.imul, 1) := by decide +kernel
theorem dX7_takeNumber_123 : decode cX7_takeNumber 123 = .ok (.aload_n 0, 1) := by decide +kernel
theorem dX7_takeNumber_124 : decode cX7_takeNumber 124 = .ok (.invokevirtual 223, 3) := by decide +kernel
theorem dX7_takeNumber_127 : decode cX7_takeNumber 127 = .ok (.iadd, 1) := by decide +kernel
theorem dX7_takeNumber_128 : decode cX7_takeNumber 128 = .ok (.bipush 48, 2) := by decide +kernel
theorem dX7_takeNumber_130 : decode cX7_takeNumber 130 = .ok (.isub, 1) := by decide +kernel
theorem dX7_takeNumber_131 : decode cX7_takeNumber 131 = .ok (.istore_n 1, 1) := by decide +kernel
theorem dX7_takeNumber_132 : decode cX7_takeNumber 132 = .ok (.aload_n 0, 1) := by decide +kernel
theorem dX7_takeNumber_133 : decode cX7_takeNumber 133 = .ok (.dup, 1) := by decide +kernel
theorem dX7_takeNumber_134 : decode cX7_takeNumber 134 = .ok (.getfield 216, 3) := by decide +kernel
theorem dX7_takeNumber_137 : decode cX7_takeNumber 137 = .ok (.aload_n 0, 1) := by decide +kernel
theorem dX7_takeNumber_138 : decode cX7_takeNumber 138 = .ok (.getfield 219, 3) := by decide +kernel
theorem dX7_takeNumber_141 : decode cX7_takeNumber 141 = .ok (.ifCond .eq 7, 3) := by decide +kernel
theorem dX7_takeNumber_144 : decode cX7_takeNumber 144 = .ok (.iconst 0, 1) := by decide +kernel
theorem dX7_takeNumber_145 : decode cX7_takeNumber 145 = .ok (.goto 4, 3) := by decide +kernel
theorem dX7_takeNumber_148 : decode cX7_takeNumber 148 = .ok (.iconst 1, 1) := by decide +kernel
theorem dX7_takeNumber_149 : decode cX7_takeNumber 149 = .ok (.iadd, 1) := by decide +kernel
theorem dX7_takeNumber_150 : decode cX7_takeNumber 150 = .ok (.putfield 216, 3) := by decide +kernel
theorem dX7_takeNumber_153 : decode cX7_takeNumber 153 = .ok (.goto (-97), 3) := by decide +kernel
theorem dX7_takeNumber_156 : decode cX7_takeNumber 156 = .ok (.aload_n 0, 1) := by decide +kernel
theorem dX7_takeNumber_157 : decode cX7_takeNumber 157 = .ok (.iload_n 1, 1) := by decide +kernel
theorem dX7_takeNumber_158 : decode cX7_takeNumber 158 = .ok (.invokevirtual 229, 3) := by decide +kernel
theorem dX7_takeNumber_161 : decode cX7_takeNumber 161 = .ok (.return_, 1) := by decide +kernel
theorem dX7_takeWalker_0 : decode cX7_takeWalker 0 = .ok (.aload_n 0, 1) := by decide +kernel
theorem dX7_takeWalker_1 : decode cX7_takeWalker 1 = .ok (.invokevirtual 232, 3) := by decide +kernel
theorem dX7_takeWalker_4 : decode cX7_takeWalker 4 = .ok (.aload_n 0, 1) := by decide +kernel
theorem dX7_takeWalker_5 : decode cX7_takeWalker 5 = .ok (.bipush 47, 2) := by decide +kernel
theorem dX7_takeWalker_7 : decode cX7_takeWalker 7 = .ok (.invokevirtual 235, 3) := by decide +kernel
theorem dX7_takeWalker_10 : decode cX7_takeWalker 10 = .ok (.aload_n 0, 1) := by decide +kernel
theorem dX7_takeWalker_11 : decode cX7_takeWalker 11 = .ok (.invokevirtual 232, 3) := by decide +kernel
theorem dX7_takeWalker_14 : decode cX7_takeWalker 14 = .ok (.aload_n 0, 1) := by decide +kernel
theorem dX7_takeWalker_15 : decode cX7_takeWalker 15 = .ok (.getfield 219, 3) := by decide +kernel
theorem dX7_takeWalker_18 : decode cX7_takeWalker 18 = .ok (.ifCond .ne 67, 3) := by decide +kernel
theorem dX7_takeWalker_21 : decode cX7_takeWalker 21 = .ok (.aload_n 0, 1) := by decide +kernel
theorem dX7_takeWalker_22 : decode cX7_takeWalker 22 = .ok (.invokevirtual 223, 3) := by decide +kernel
theorem dX7_takeWalker_25 : decode cX7_takeWalker 25 = .ok (.bipush 62, 2) := by decide +kernel
theorem dX7_takeWalker_27 : decode cX7_takeWalker 27 = .ok (.if_icmp .ne 58, 3) := by decide +kernel
theorem dX7_takeWalker_30 : decode cX7_takeWalker 30 = .ok (.aload_n 0, 1) := by decide +kernel
theorem dX7_takeWalker_31 : decode cX7_takeWalker 31 = .ok (.dup, 1) := by decide +kernel
theorem dX7_takeWalker_32 : decode cX7_takeWalker 32 = .ok (.getfield 216, 3) := by decide +kernel
theorem dX7_takeWalker_35 : decode cX7_takeWalker 35 = .ok (.iconst 1, 1) := by decide +kernel
theorem dX7_takeWalker_36 : decode cX7_takeWalker 36 = .ok (.iadd, 1) := by decide +kernel
theorem dX7_takeWalker_37 : decode cX7_takeWalker 37 = .ok (.putfield 216, 3) := by decide +kernel
theorem dX7_takeWalker_40 : decode cX7_takeWalker 40 = .ok (.aload_n 0, 1) := by decide +kernel
theorem dX7_takeWalker_41 : decode cX7_takeWalker 41 = .ok (.invokevirtual 232, 3) := by decide +kernel
theorem dX7_takeWalker_44 : decode cX7_takeWalker 44 = .ok (.aload_n 0, 1) := by decide +kernel
theorem dX7_takeWalker_45 : decode cX7_takeWalker 45 = .ok (.getfield 219, 3) := by decide +kernel
theorem dX7_takeWalker_48 : decode cX7_takeWalker 48 = .ok (.ifCond .ne 29, 3) := by decide +kernel
theorem dX7_takeWalker_51 : decode cX7_takeWalker 51 = .ok (.aload_n 0, 1) := by decide +kernel
theorem dX7_takeWalker_52 : decode cX7_takeWalker 52 = .ok (.invokevirtual 223, 3) := by decide +kernel
theorem dX7_takeWalker_55 : decode cX7_takeWalker 55 = .ok (.bipush 42, 2) := by decide +kernel
theorem dX7_takeWalker_57 : decode cX7_takeWalker 57 = .ok (.if_icmp .ne 20, 3) := by decide +kernel
theorem dX7_takeWalker_60 : decode cX7_takeWalker 60 = .ok (.aload_n 0, 1) := by decide +kernel
theorem dX7_takeWalker_61 : decode cX7_takeWalker 61 = .ok (.dup, 1) := by decide +kernel
theorem dX7_takeWalker_62 : decode cX7_takeWalker 62 = .ok (.getfield 216, 3) := by decide +kernel
theorem dX7_takeWalker_65 : decode cX7_takeWalker 65 = .ok (.iconst 1, 1) := by decide +kernel
theorem dX7_takeWalker_66 : decode cX7_takeWalker 66 = .ok (.iadd, 1) := by decide +kernel
theorem dX7_takeWalker_67 : decode cX7_takeWalker 67 = .ok (.putfield 216, 3) := by decide +kernel
theorem dX7_takeWalker_70 : decode cX7_takeWalker 70 = .ok (.aload_n 0, 1) := by decide +kernel
theorem dX7_takeWalker_71 : decode cX7_takeWalker 71 = .ok (.invokevirtual 232, 3) := by decide +kernel
theorem dX7_takeWalker_74 : decode cX7_takeWalker 74 = .ok (.goto (-60), 3) := by decide +kernel
theorem dX7_takeWalker_77 : decode cX7_takeWalker 77 = .ok (.aload_n 0, 1) := by decide +kernel
theorem dX7_takeWalker_78 : decode cX7_takeWalker 78 = .ok (.iconst 0, 1) := by decide +kernel
theorem dX7_takeWalker_79 : decode cX7_takeWalker 79 = .ok (.invokevirtual 229, 3) := by decide +kernel
theorem dX7_takeWalker_82 : decode cX7_takeWalker 82 = .ok (.goto (-68), 3) := by decide +kernel
theorem dX7_takeWalker_85 : decode cX7_takeWalker 85 = .ok (.return_, 1) := by decide +kernel
theorem dX7_takeMend_0 : decode cX7_takeMend 0 = .ok (.aload_n 0, 1) := by decide +kernel
theorem dX7_takeMend_1 : decode cX7_takeMend 1 = .ok (.invokevirtual 232, 3) := by decide +kernel
theorem dX7_takeMend_4 : decode cX7_takeMend 4 = .ok (.aload_n 0, 1) := by decide +kernel
theorem dX7_takeMend_5 : decode cX7_takeMend 5 = .ok (.bipush 61, 2) := by decide +kernel
theorem dX7_takeMend_7 : decode cX7_takeMend 7 = .ok (.invokevirtual 235, 3) := by decide +kernel
theorem dX7_takeMend_10 : decode cX7_takeMend 10 = .ok (.aload_n 0, 1) := by decide +kernel
theorem dX7_takeMend_11 : decode cX7_takeMend 11 = .ok (.aload_n 0, 1) := by decide +kernel
theorem dX7_takeMend_12 : decode cX7_takeMend 12 = .ok (.getfield 219, 3) := by decide +kernel
theorem dX7_takeMend_15 : decode cX7_takeMend 15 = .ok (.ifCond .ne 17, 3) := by decide +kernel
theorem dX7_takeMend_18 : decode cX7_takeMend 18 = .ok (.aload_n 0, 1) := by decide +kernel
theorem dX7_takeMend_19 : decode cX7_takeMend 19 = .ok (.invokevirtual 223, 3) := by decide +kernel
theorem dX7_takeMend_22 : decode cX7_takeMend 22 = .ok (.bipush 48, 2) := by decide +kernel
theorem dX7_takeMend_24 : decode cX7_takeMend 24 = .ok (.bipush 50, 2) := by decide +kernel
theorem dX7_takeMend_26 : decode cX7_takeMend 26 = .ok (.invokestatic 44, 3) := by decide +kernel
theorem dX7_takeMend_29 : decode cX7_takeMend 29 = .ok (.ifCond .ne 7, 3) := by decide +kernel
theorem dX7_takeMend_32 : decode cX7_takeMend 32 = .ok (.iconst 1, 1) := by decide +kernel
theorem dX7_takeMend_33 : decode cX7_takeMend 33 = .ok (.goto 4, 3) := by decide +kernel
theorem dX7_takeMend_36 : decode cX7_takeMend 36 = .ok (.iconst 0, 1) := by decide +kernel
theorem dX7_takeMend_37 : decode cX7_takeMend 37 = .ok (.putfield 219, 3) := by decide +kernel
theorem dX7_takeMend_40 : decode cX7_takeMend 40 = .ok (.aload_n 0, 1) := by decide +kernel
theorem dX7_takeMend_41 : decode cX7_takeMend 41 = .ok (.getfield 219, 3) := by decide +kernel
theorem dX7_takeMend_44 : decode cX7_takeMend 44 = .ok (.ifCond .ne 24, 3) := by decide +kernel
theorem dX7_takeMend_47 : decode cX7_takeMend 47 = .ok (.aload_n 0, 1) := by decide +kernel
theorem dX7_takeMend_48 : decode cX7_takeMend 48 = .ok (.aload_n 0, 1) := by decide +kernel
theorem dX7_takeMend_49 : decode cX7_takeMend 49 = .ok (.invokevirtual 223, 3) := by decide +kernel
theorem dX7_takeMend_52 : decode cX7_takeMend 52 = .ok (.bipush 48, 2) := by decide +kernel
theorem dX7_takeMend_54 : decode cX7_takeMend 54 = .ok (.isub, 1) := by decide +kernel
theorem dX7_takeMend_55 : decode cX7_takeMend 55 = .ok (.invokevirtual 229, 3) := by decide +kernel
theorem dX7_takeMend_58 : decode cX7_takeMend 58 = .ok (.aload_n 0, 1) := by decide +kernel
theorem dX7_takeMend_59 : decode cX7_takeMend 59 = .ok (.dup, 1) := by decide +kernel
theorem dX7_takeMend_60 : decode cX7_takeMend 60 = .ok (.getfield 216, 3) := by decide +kernel
theorem dX7_takeMend_63 : decode cX7_takeMend 63 = .ok (.iconst 1, 1) := by decide +kernel
theorem dX7_takeMend_64 : decode cX7_takeMend 64 = .ok (.iadd, 1) := by decide +kernel
theorem dX7_takeMend_65 : decode cX7_takeMend 65 = .ok (.putfield 216, 3) := by decide +kernel
theorem dX7_takeMend_68 : decode cX7_takeMend 68 = .ok (.return_, 1) := by decide +kernel
theorem dX7_takeOrder_0 : decode cX7_takeOrder 0 = .ok (.aload_n 0, 1) := by decide +kernel
theorem dX7_takeOrder_1 : decode cX7_takeOrder 1 = .ok (.invokevirtual 223, 3) := by decide +kernel
theorem dX7_takeOrder_4 : decode cX7_takeOrder 4 = .ok (.istore_n 1, 1) := by decide +kernel
theorem dX7_takeOrder_5 : decode cX7_takeOrder 5 = .ok (.aload_n 0, 1) := by decide +kernel
theorem dX7_takeOrder_6 : decode cX7_takeOrder 6 = .ok (.dup, 1) := by decide +kernel
theorem dX7_takeOrder_7 : decode cX7_takeOrder 7 = .ok (.getfield 216, 3) := by decide +kernel
theorem dX7_takeOrder_10 : decode cX7_takeOrder 10 = .ok (.iconst 1, 1) := by decide +kernel
theorem dX7_takeOrder_11 : decode cX7_takeOrder 11 = .ok (.iadd, 1) := by decide +kernel
theorem dX7_takeOrder_12 : decode cX7_takeOrder 12 = .ok (.putfield 216, 3) := by decide +kernel
theorem dX7_takeOrder_15 : decode cX7_takeOrder 15 = .ok (.aload_n 0, 1) := by decide +kernel
theorem dX7_takeOrder_16 : decode cX7_takeOrder 16 = .ok (.getfield 38, 3) := by decide +kernel
theorem dX7_takeOrder_19 : decode cX7_takeOrder 19 = .ok (.aload_n 0, 1) := by decide +kernel
theorem dX7_takeOrder_20 : decode cX7_takeOrder 20 = .ok (.getfield 238, 3) := by decide +kernel
theorem dX7_takeOrder_23 : decode cX7_takeOrder 23 = .ok (.aload_n 0, 1) := by decide +kernel
theorem dX7_takeOrder_24 : decode cX7_takeOrder 24 = .ok (.getfield 226, 3) := by decide +kernel
theorem dX7_takeOrder_27 : decode cX7_takeOrder 27 = .ok (.iastore, 1) := by decide +kernel
theorem dX7_takeOrder_28 : decode cX7_takeOrder 28 = .ok (.iload_n 1, 1) := by decide +kernel
theorem dX7_takeOrder_29 : decode cX7_takeOrder 29 = .ok (.lookupswitch 64 #[(99, 57), (109, 50), (116, 57), (119, 43)], 43) := by decide +kernel
theorem dX7_takeOrder_72 : decode cX7_takeOrder 72 = .ok (.aload_n 0, 1) := by decide +kernel
theorem dX7_takeOrder_73 : decode cX7_takeOrder 73 = .ok (.invokevirtual 241, 3) := by decide +kernel
theorem dX7_takeOrder_76 : decode cX7_takeOrder 76 = .ok (.goto 32, 3) := by decide +kernel
theorem dX7_takeOrder_79 : decode cX7_takeOrder 79 = .ok (.aload_n 0, 1) := by decide +kernel
theorem dX7_takeOrder_80 : decode cX7_takeOrder 80 = .ok (.invokevirtual 244, 3) := by decide +kernel
theorem dX7_takeOrder_83 : decode cX7_takeOrder 83 = .ok (.goto 25, 3) := by decide +kernel
theorem dX7_takeOrder_86 : decode cX7_takeOrder 86 = .ok (.aload_n 0, 1) := by decide +kernel
theorem dX7_takeOrder_87 : decode cX7_takeOrder 87 = .ok (.invokevirtual 232, 3) := by decide +kernel
theorem dX7_takeOrder_90 : decode cX7_takeOrder 90 = .ok (.goto 18, 3) := by decide +kernel
theorem dX7_takeOrder_93 : decode cX7_takeOrder 93 = .ok (.aload_n 0, 1) := by decide +kernel
theorem dX7_takeOrder_94 : decode cX7_takeOrder 94 = .ok (.dup, 1) := by decide +kernel
theorem dX7_takeOrder_95 : decode cX7_takeOrder 95 = .ok (.getfield 216, 3) := by decide +kernel
theorem dX7_takeOrder_98 : decode cX7_takeOrder 98 = .ok (.iconst 1, 1) := by decide +kernel
theorem dX7_takeOrder_99 : decode cX7_takeOrder 99 = .ok (.isub, 1) := by decide +kernel
theorem dX7_takeOrder_100 : decode cX7_takeOrder 100 = .ok (.putfield 216, 3) := by decide +kernel
theorem dX7_takeOrder_103 : decode cX7_takeOrder 103 = .ok (.aload_n 0, 1) := by decide +kernel
theorem dX7_takeOrder_104 : decode cX7_takeOrder 104 = .ok (.iconst 1, 1) := by decide +kernel
theorem dX7_takeOrder_105 : decode cX7_takeOrder 105 = .ok (.putfield 219, 3) := by decide +kernel
theorem dX7_takeOrder_108 : decode cX7_takeOrder 108 = .ok (.aload_n 0, 1) := by decide +kernel
theorem dX7_takeOrder_109 : decode cX7_takeOrder 109 = .ok (.getfield 219, 3) := by decide +kernel
theorem dX7_takeOrder_112 : decode cX7_takeOrder 112 = .ok (.ifCond .ne 36, 3) := by decide +kernel
theorem dX7_takeOrder_115 : decode cX7_takeOrder 115 = .ok (.aload_n 0, 1) := by decide +kernel
theorem dX7_takeOrder_116 : decode cX7_takeOrder 116 = .ok (.getfield 35, 3) := by decide +kernel
theorem dX7_takeOrder_119 : decode cX7_takeOrder 119 = .ok (.aload_n 0, 1) := by decide +kernel
theorem dX7_takeOrder_120 : decode cX7_takeOrder 120 = .ok (.getfield 238, 3) := by decide +kernel
theorem dX7_takeOrder_123 : decode cX7_takeOrder 123 = .ok (.iload_n 1, 1) := by decide +kernel
theorem dX7_takeOrder_124 : decode cX7_takeOrder 124 = .ok (.iastore, 1) := by decide +kernel
theorem dX7_takeOrder_125 : decode cX7_takeOrder 125 = .ok (.aload_n 0, 1) := by decide +kernel
theorem dX7_takeOrder_126 : decode cX7_takeOrder 126 = .ok (.dup, 1) := by decide +kernel
theorem dX7_takeOrder_127 : decode cX7_takeOrder 127 = .ok (.getfield 238, 3) := by decide +kernel
theorem dX7_takeOrder_130 : decode cX7_takeOrder 130 = .ok (.iconst 1, 1) := by decide +kernel
theorem dX7_takeOrder_131 : decode cX7_takeOrder 131 = .ok (.iadd, 1) := by decide +kernel
theorem dX7_takeOrder_132 : decode cX7_takeOrder 132 = .ok (.putfield 238, 3) := by decide +kernel
theorem dX7_takeOrder_135 : decode cX7_takeOrder 135 = .ok (.aload_n 0, 1) := by decide +kernel
theorem dX7_takeOrder_136 : decode cX7_takeOrder 136 = .ok (.getfield 38, 3) := by decide +kernel
theorem dX7_takeOrder_139 : decode cX7_takeOrder 139 = .ok (.aload_n 0, 1) := by decide +kernel
theorem dX7_takeOrder_140 : decode cX7_takeOrder 140 = .ok (.getfield 238, 3) := by decide +kernel
theorem dX7_takeOrder_143 : decode cX7_takeOrder 143 = .ok (.aload_n 0, 1) := by decide +kernel
theorem dX7_takeOrder_144 : decode cX7_takeOrder 144 = .ok (.getfield 226, 3) := by decide +kernel
theorem dX7_takeOrder_147 : decode cX7_takeOrder 147 = .ok (.iastore, 1) := by decide +kernel
theorem dX7_takeOrder_148 : decode cX7_takeOrder 148 = .ok (.return_, 1) := by decide +kernel
theorem dX7_fault_0 : decode cX7_fault 0 = .ok (.aload_n 0, 1) := by decide +kernel
theorem dX7_fault_1 : decode cX7_fault 1 = .ok (.iconst 0, 1) := by decide +kernel
theorem dX7_fault_2 : decode cX7_fault 2 = .ok (.putfield 216, 3) := by decide +kernel
theorem dX7_fault_5 : decode cX7_fault 5 = .ok (.aload_n 0, 1) := by decide +kernel
theorem dX7_fault_6 : decode cX7_fault 6 = .ok (.iconst 0, 1) := by decide +kernel
theorem dX7_fault_7 : decode cX7_fault 7 = .ok (.putfield 219, 3) := by decide +kernel
theorem dX7_fault_10 : decode cX7_fault 10 = .ok (.aload_n 0, 1) := by decide +kernel
theorem dX7_fault_11 : decode cX7_fault 11 = .ok (.iconst 0, 1) := by decide +kernel
theorem dX7_fault_12 : decode cX7_fault 12 = .ok (.putfield 238, 3) := by decide +kernel
theorem dX7_fault_15 : decode cX7_fault 15 = .ok (.aload_n 0, 1) := by decide +kernel
theorem dX7_fault_16 : decode cX7_fault 16 = .ok (.iconst 0, 1) := by decide +kernel
theorem dX7_fault_17 : decode cX7_fault 17 = .ok (.putfield 226, 3) := by decide +kernel
theorem dX7_fault_20 : decode cX7_fault 20 = .ok (.aload_n 0, 1) := by decide +kernel
theorem dX7_fault_21 : decode cX7_fault 21 = .ok (.invokevirtual 247, 3) := by decide +kernel
theorem dX7_fault_24 : decode cX7_fault 24 = .ok (.aload_n 0, 1) := by decide +kernel
theorem dX7_fault_25 : decode cX7_fault 25 = .ok (.getfield 219, 3) := by decide +kernel
theorem dX7_fault_28 : decode cX7_fault 28 = .ok (.ifCond .ne 34, 3) := by decide +kernel
theorem dX7_fault_31 : decode cX7_fault 31 = .ok (.aload_n 0, 1) := by decide +kernel
theorem dX7_fault_32 : decode cX7_fault 32 = .ok (.getfield 216, 3) := by decide +kernel
theorem dX7_fault_35 : decode cX7_fault 35 = .ok (.aload_n 0, 1) := by decide +kernel
theorem dX7_fault_36 : decode cX7_fault 36 = .ok (.getfield 196, 3) := by decide +kernel
theorem dX7_fault_39 : decode cX7_fault 39 = .ok (.if_icmp .ge 23, 3) := by decide +kernel
theorem dX7_fault_42 : decode cX7_fault 42 = .ok (.aload_n 0, 1) := by decide +kernel
theorem dX7_fault_43 : decode cX7_fault 43 = .ok (.bipush 59, 2) := by decide +kernel
theorem dX7_fault_45 : decode cX7_fault 45 = .ok (.invokevirtual 235, 3) := by decide +kernel
theorem dX7_fault_48 : decode cX7_fault 48 = .ok (.aload_n 0, 1) := by decide +kernel
theorem dX7_fault_49 : decode cX7_fault 49 = .ok (.getfield 219, 3) := by decide +kernel
theorem dX7_fault_52 : decode cX7_fault 52 = .ok (.ifCond .ne (-28), 3) := by decide +kernel
theorem dX7_fault_55 : decode cX7_fault 55 = .ok (.aload_n 0, 1) := by decide +kernel
theorem dX7_fault_56 : decode cX7_fault 56 = .ok (.invokevirtual 247, 3) := by decide +kernel
theorem dX7_fault_59 : decode cX7_fault 59 = .ok (.goto (-35), 3) := by decide +kernel
theorem dX7_fault_62 : decode cX7_fault 62 = .ok (.aload_n 0, 1) := by decide +kernel
theorem dX7_fault_63 : decode cX7_fault 63 = .ok (.getfield 219, 3) := by decide +kernel
theorem dX7_fault_66 : decode cX7_fault 66 = .ok (.ifCond .eq 10, 3) := by decide +kernel
theorem dX7_fault_69 : decode cX7_fault 69 = .ok (.aload_n 0, 1) := by decide +kernel
theorem dX7_fault_70 : decode cX7_fault 70 = .ok (.getfield 216, 3) := by decide +kernel
theorem dX7_fault_73 : decode cX7_fault 73 = .ok (.goto 5, 3) := by decide +kernel
theorem dX7_fault_76 : decode cX7_fault 76 = .ok (.bipush (-6), 2) := by decide +kernel
theorem dX7_fault_78 : decode cX7_fault 78 = .ok (.ireturn, 1) := by decide +kernel
theorem dX7_sendWalker_0 : decode cX7_sendWalker 0 = .ok (.aload_n 0, 1) := by decide +kernel
theorem dX7_sendWalker_1 : decode cX7_sendWalker 1 = .ok (.aload_n 0, 1) := by decide +kernel
theorem dX7_sendWalker_2 : decode cX7_sendWalker 2 = .ok (.getfield 41, 3) := by decide +kernel
theorem dX7_sendWalker_5 : decode cX7_sendWalker 5 = .ok (.aload_n 0, 1) := by decide +kernel
theorem dX7_sendWalker_6 : decode cX7_sendWalker 6 = .ok (.getfield 38, 3) := by decide +kernel
theorem dX7_sendWalker_9 : decode cX7_sendWalker 9 = .ok (.iload_n 1, 1) := by decide +kernel
theorem dX7_sendWalker_10 : decode cX7_sendWalker 10 = .ok (.iaload, 1) := by decide +kernel
theorem dX7_sendWalker_11 : decode cX7_sendWalker 11 = .ok (.iaload, 1) := by decide +kernel
theorem dX7_sendWalker_12 : decode cX7_sendWalker 12 = .ok (.aload_n 0, 1) := by decide +kernel
theorem dX7_sendWalker_13 : decode cX7_sendWalker 13 = .ok (.getfield 41, 3) := by decide +kernel
theorem dX7_sendWalker_16 : decode cX7_sendWalker 16 = .ok (.aload_n 0, 1) := by decide +kernel
theorem dX7_sendWalker_17 : decode cX7_sendWalker 17 = .ok (.getfield 38, 3) := by decide +kernel
theorem dX7_sendWalker_20 : decode cX7_sendWalker 20 = .ok (.iload_n 1, 1) := by decide +kernel
theorem dX7_sendWalker_21 : decode cX7_sendWalker 21 = .ok (.iaload, 1) := by decide +kernel
theorem dX7_sendWalker_22 : decode cX7_sendWalker 22 = .ok (.iconst 1, 1) := by decide +kernel
theorem dX7_sendWalker_23 : decode cX7_sendWalker 23 = .ok (.iadd, 1) := by decide +kernel
theorem dX7_sendWalker_24 : decode cX7_sendWalker 24 = .ok (.iaload, 1) := by decide +kernel
theorem dX7_sendWalker_25 : decode cX7_sendWalker 25 = .ok (.iconst 0, 1) := by decide +kernel
theorem dX7_sendWalker_26 : decode cX7_sendWalker 26 = .ok (.invokevirtual 149, 3) := by decide +kernel
theorem dX7_sendWalker_29 : decode cX7_sendWalker 29 = .ok (.istore_n 2, 1) := by decide +kernel
theorem dX7_sendWalker_30 : decode cX7_sendWalker 30 = .ok (.iload_n 2, 1) := by decide +kernel
theorem dX7_sendWalker_31 : decode cX7_sendWalker 31 = .ok (.istore_n 3, 1) := by decide +kernel
theorem dX7_sendWalker_32 : decode cX7_sendWalker 32 = .ok (.aload_n 0, 1) := by decide +kernel
theorem dX7_sendWalker_33 : decode cX7_sendWalker 33 = .ok (.getfield 38, 3) := by decide +kernel
theorem dX7_sendWalker_36 : decode cX7_sendWalker 36 = .ok (.iload_n 1, 1) := by decide +kernel
theorem dX7_sendWalker_37 : decode cX7_sendWalker 37 = .ok (.iaload, 1) := by decide +kernel
theorem dX7_sendWalker_38 : decode cX7_sendWalker 38 = .ok (.iconst 2, 1) := by decide +kernel
theorem dX7_sendWalker_39 : decode cX7_sendWalker 39 = .ok (.iadd, 1) := by decide +kernel
theorem dX7_sendWalker_40 : decode cX7_sendWalker 40 = .ok (.istore 4, 2) := by decide +kernel
theorem dX7_sendWalker_42 : decode cX7_sendWalker 42 = .ok (.iload 4, 2) := by decide +kernel
theorem dX7_sendWalker_44 : decode cX7_sendWalker 44 = .ok (.aload_n 0, 1) := by decide +kernel
theorem dX7_sendWalker_45 : decode cX7_sendWalker 45 = .ok (.getfield 38, 3) := by decide +kernel
theorem dX7_sendWalker_48 : decode cX7_sendWalker 48 = .ok (.iload_n 1, 1) := by decide +kernel
theorem dX7_sendWalker_49 : decode cX7_sendWalker 49 = .ok (.iconst 1, 1) := by decide +kernel
theorem dX7_sendWalker_50 : decode cX7_sendWalker 50 = .ok (.iadd, 1) := by decide +kernel
theorem dX7_sendWalker_51 : decode cX7_sendWalker 51 = .ok (.iaload, 1) := by decide +kernel
theorem dX7_sendWalker_52 : decode cX7_sendWalker 52 = .ok (.if_icmp .ge 36, 3) := by decide +kernel
theorem dX7_sendWalker_55 : decode cX7_sendWalker 55 = .ok (.iload_n 3, 1) := by decide +kernel
theorem dX7_sendWalker_56 : decode cX7_sendWalker 56 = .ok (.ifCond .lt 32, 3) := by decide +kernel
theorem dX7_sendWalker_59 : decode cX7_sendWalker 59 = .ok (.aload_n 0, 1) := by decide +kernel
theorem dX7_sendWalker_60 : decode cX7_sendWalker 60 = .ok (.iload_n 2, 1) := by decide +kernel
theorem dX7_sendWalker_61 : decode cX7_sendWalker 61 = .ok (.aload_n 0, 1) := by decide +kernel
theorem dX7_sendWalker_62 : decode cX7_sendWalker 62 = .ok (.getfield 41, 3) := by decide +kernel
theorem dX7_sendWalker_65 : decode cX7_sendWalker 65 = .ok (.iload 4, 2) := by decide +kernel
theorem dX7_sendWalker_67 : decode cX7_sendWalker 67 = .ok (.iaload, 1) := by decide +kernel
theorem dX7_sendWalker_68 : decode cX7_sendWalker 68 = .ok (.aload_n 0, 1) := by decide +kernel
theorem dX7_sendWalker_69 : decode cX7_sendWalker 69 = .ok (.getfield 41, 3) := by decide +kernel
theorem dX7_sendWalker_72 : decode cX7_sendWalker 72 = .ok (.iload 4, 2) := by decide +kernel
theorem dX7_sendWalker_74 : decode cX7_sendWalker 74 = .ok (.iconst 1, 1) := by decide +kernel
theorem dX7_sendWalker_75 : decode cX7_sendWalker 75 = .ok (.iadd, 1) := by decide +kernel
theorem dX7_sendWalker_76 : decode cX7_sendWalker 76 = .ok (.iaload, 1) := by decide +kernel
theorem dX7_sendWalker_77 : decode cX7_sendWalker 77 = .ok (.iconst 0, 1) := by decide +kernel
theorem dX7_sendWalker_78 : decode cX7_sendWalker 78 = .ok (.invokevirtual 156, 3) := by decide +kernel
theorem dX7_sendWalker_81 : decode cX7_sendWalker 81 = .ok (.istore_n 3, 1) := by decide +kernel
theorem dX7_sendWalker_82 : decode cX7_sendWalker 82 = .ok (.iinc 4 2, 3) := by decide +kernel
theorem dX7_sendWalker_85 : decode cX7_sendWalker 85 = .ok (.goto (-43), 3) := by decide +kernel
theorem dX7_sendWalker_88 : decode cX7_sendWalker 88 = .ok (.iload_n 3, 1) := by decide +kernel
theorem dX7_sendWalker_89 : decode cX7_sendWalker 89 = .ok (.ireturn, 1) := by decide +kernel
theorem dX7_carry_0 : decode cX7_carry 0 = .ok (.aload_n 0, 1) := by decide +kernel
theorem dX7_carry_1 : decode cX7_carry 1 = .ok (.getfield 38, 3) := by decide +kernel
theorem dX7_carry_4 : decode cX7_carry 4 = .ok (.iload_n 1, 1) := by decide +kernel
theorem dX7_carry_5 : decode cX7_carry 5 = .ok (.iaload, 1) := by decide +kernel
theorem dX7_carry_6 : decode cX7_carry 6 = .ok (.istore_n 2, 1) := by decide +kernel
theorem dX7_carry_7 : decode cX7_carry 7 = .ok (.aload_n 0, 1) := by decide +kernel
theorem dX7_carry_8 : decode cX7_carry 8 = .ok (.getfield 35, 3) := by decide +kernel
theorem dX7_carry_11 : decode cX7_carry 11 = .ok (.iload_n 1, 1) := by decide +kernel
theorem dX7_carry_12 : decode cX7_carry 12 = .ok (.iaload, 1) := by decide +kernel
theorem dX7_carry_13 : decode cX7_carry 13 = .ok (.lookupswitch 73 #[(99, 41), (109, 53), (119, 35)], 35) := by decide +kernel
theorem dX7_carry_48 : decode cX7_carry 48 = .ok (.aload_n 0, 1) := by decide +kernel
theorem dX7_carry_49 : decode cX7_carry 49 = .ok (.iload_n 1, 1) := by decide +kernel
theorem dX7_carry_50 : decode cX7_carry 50 = .ok (.invokevirtual 250, 3) := by decide +kernel
theorem dX7_carry_53 : decode cX7_carry 53 = .ok (.ireturn, 1) := by decide +kernel
theorem dX7_carry_54 : decode cX7_carry 54 = .ok (.aload_n 0, 1) := by decide +kernel
theorem dX7_carry_55 : decode cX7_carry 55 = .ok (.aload_n 0, 1) := by decide +kernel
theorem dX7_carry_56 : decode cX7_carry 56 = .ok (.getfield 41, 3) := by decide +kernel
theorem dX7_carry_59 : decode cX7_carry 59 = .ok (.iload_n 2, 1) := by decide +kernel
theorem dX7_carry_60 : decode cX7_carry 60 = .ok (.iaload, 1) := by decide +kernel
theorem dX7_carry_61 : decode cX7_carry 61 = .ok (.iconst 0, 1) := by decide +kernel
theorem dX7_carry_62 : decode cX7_carry 62 = .ok (.invokevirtual 170, 3) := by decide +kernel
theorem dX7_carry_65 : decode cX7_carry 65 = .ok (.ireturn, 1) := by decide +kernel
theorem dX7_carry_66 : decode cX7_carry 66 = .ok (.aload_n 0, 1) := by decide +kernel
theorem dX7_carry_67 : decode cX7_carry 67 = .ok (.aload_n 0, 1) := by decide +kernel
theorem dX7_carry_68 : decode cX7_carry 68 = .ok (.getfield 41, 3) := by decide +kernel
theorem dX7_carry_71 : decode cX7_carry 71 = .ok (.iload_n 2, 1) := by decide +kernel
theorem dX7_carry_72 : decode cX7_carry 72 = .ok (.iaload, 1) := by decide +kernel
theorem dX7_carry_73 : decode cX7_carry 73 = .ok (.aload_n 0, 1) := by decide +kernel
theorem dX7_carry_74 : decode cX7_carry 74 = .ok (.getfield 41, 3) := by decide +kernel
theorem dX7_carry_77 : decode cX7_carry 77 = .ok (.iload_n 2, 1) := by decide +kernel
theorem dX7_carry_78 : decode cX7_carry 78 = .ok (.iconst 1, 1) := by decide +kernel
theorem dX7_carry_79 : decode cX7_carry 79 = .ok (.iadd, 1) := by decide +kernel
theorem dX7_carry_80 : decode cX7_carry 80 = .ok (.iaload, 1) := by decide +kernel
theorem dX7_carry_81 : decode cX7_carry 81 = .ok (.iconst 0, 1) := by decide +kernel
theorem dX7_carry_82 : decode cX7_carry 82 = .ok (.invokevirtual 167, 3) := by decide +kernel
theorem dX7_carry_85 : decode cX7_carry 85 = .ok (.ireturn, 1) := by decide +kernel
theorem dX7_carry_86 : decode cX7_carry 86 = .ok (.aload_n 0, 1) := by decide +kernel
theorem dX7_carry_87 : decode cX7_carry 87 = .ok (.aload_n 0, 1) := by decide +kernel
theorem dX7_carry_88 : decode cX7_carry 88 = .ok (.getfield 41, 3) := by decide +kernel
theorem dX7_carry_91 : decode cX7_carry 91 = .ok (.iload_n 2, 1) := by decide +kernel
theorem dX7_carry_92 : decode cX7_carry 92 = .ok (.iaload, 1) := by decide +kernel
theorem dX7_carry_93 : decode cX7_carry 93 = .ok (.iconst 0, 1) := by decide +kernel
theorem dX7_carry_94 : decode cX7_carry 94 = .ok (.invokevirtual 177, 3) := by decide +kernel
theorem dX7_carry_97 : decode cX7_carry 97 = .ok (.ireturn, 1) := by decide +kernel
theorem dX7_carryOut_0 : decode cX7_carryOut 0 = .ok (.aload_n 0, 1) := by decide +kernel
theorem dX7_carryOut_1 : decode cX7_carryOut 1 = .ok (.invokevirtual 253, 3) := by decide +kernel
theorem dX7_carryOut_4 : decode cX7_carryOut 4 = .ok (.ifCond .lt 6, 3) := by decide +kernel
theorem dX7_carryOut_7 : decode cX7_carryOut 7 = .ok (.bipush (-3), 2) := by decide +kernel
theorem dX7_carryOut_9 : decode cX7_carryOut 9 = .ok (.ireturn, 1) := by decide +kernel
theorem dX7_carryOut_10 : decode cX7_carryOut 10 = .ok (.aload_n 0, 1) := by decide +kernel
theorem dX7_carryOut_11 : decode cX7_carryOut 11 = .ok (.invokevirtual 59, 3) := by decide +kernel
theorem dX7_carryOut_14 : decode cX7_carryOut 14 = .ok (.iconst 0, 1) := by decide +kernel
theorem dX7_carryOut_15 : decode cX7_carryOut 15 = .ok (.istore_n 1, 1) := by decide +kernel
theorem dX7_carryOut_16 : decode cX7_carryOut 16 = .ok (.iload_n 1, 1) := by decide +kernel
theorem dX7_carryOut_17 : decode cX7_carryOut 17 = .ok (.aload_n 0, 1) := by decide +kernel
theorem dX7_carryOut_18 : decode cX7_carryOut 18 = .ok (.getfield 238, 3) := by decide +kernel
theorem dX7_carryOut_21 : decode cX7_carryOut 21 = .ok (.if_icmp .ge 17, 3) := by decide +kernel
theorem dX7_carryOut_24 : decode cX7_carryOut 24 = .ok (.aload_n 0, 1) := by decide +kernel
theorem dX7_carryOut_25 : decode cX7_carryOut 25 = .ok (.iload_n 1, 1) := by decide +kernel
theorem dX7_carryOut_26 : decode cX7_carryOut 26 = .ok (.invokevirtual 256, 3) := by decide +kernel
theorem dX7_carryOut_29 : decode cX7_carryOut 29 = .ok (.ifCond .lt 9, 3) := by decide +kernel
theorem dX7_carryOut_32 : decode cX7_carryOut 32 = .ok (.iinc 1 1, 3) := by decide +kernel
theorem dX7_carryOut_35 : decode cX7_carryOut 35 = .ok (.goto (-19), 3) := by decide +kernel
theorem dX7_carryOut_38 : decode cX7_carryOut 38 = .ok (.aload_n 0, 1) := by decide +kernel
theorem dX7_carryOut_39 : decode cX7_carryOut 39 = .ok (.iconst 0, 1) := by decide +kernel
theorem dX7_carryOut_40 : decode cX7_carryOut 40 = .ok (.putfield 196, 3) := by decide +kernel
theorem dX7_carryOut_43 : decode cX7_carryOut 43 = .ok (.iload_n 1, 1) := by decide +kernel
theorem dX7_carryOut_44 : decode cX7_carryOut 44 = .ok (.ireturn, 1) := by decide +kernel
theorem dX7_undo_0 : decode cX7_undo 0 = .ok (.aload_n 0, 1) := by decide +kernel
theorem dX7_undo_1 : decode cX7_undo 1 = .ok (.getfield 52, 3) := by decide +kernel
theorem dX7_undo_4 : decode cX7_undo 4 = .ok (.ifCond .ne 6, 3) := by decide +kernel
theorem dX7_undo_7 : decode cX7_undo 7 = .ok (.bipush (-5), 2) := by decide +kernel
theorem dX7_undo_9 : decode cX7_undo 9 = .ok (.ireturn, 1) := by decide +kernel
theorem dX7_undo_10 : decode cX7_undo 10 = .ok (.aload_n 0, 1) := by decide +kernel
theorem dX7_undo_11 : decode cX7_undo 11 = .ok (.dup, 1) := by decide +kernel
theorem dX7_undo_12 : decode cX7_undo 12 = .ok (.getfield 52, 3) := by decide +kernel
theorem dX7_undo_15 : decode cX7_undo 15 = .ok (.iconst 1, 1) := by decide +kernel
theorem dX7_undo_16 : decode cX7_undo 16 = .ok (.isub, 1) := by decide +kernel
theorem dX7_undo_17 : decode cX7_undo 17 = .ok (.putfield 52, 3) := by decide +kernel
theorem dX7_undo_20 : decode cX7_undo 20 = .ok (.aload_n 0, 1) := by decide +kernel
theorem dX7_undo_21 : decode cX7_undo 21 = .ok (.getfield 56, 3) := by decide +kernel
theorem dX7_undo_24 : decode cX7_undo 24 = .ok (.aload_n 0, 1) := by decide +kernel
theorem dX7_undo_25 : decode cX7_undo 25 = .ok (.getfield 52, 3) := by decide +kernel
theorem dX7_undo_28 : decode cX7_undo 28 = .ok (.iadd, 1) := by decide +kernel
theorem dX7_undo_29 : decode cX7_undo 29 = .ok (.bipush 6, 2) := by decide +kernel
theorem dX7_undo_31 : decode cX7_undo 31 = .ok (.irem, 1) := by decide +kernel
theorem dX7_undo_32 : decode cX7_undo 32 = .ok (.istore_n 1, 1) := by decide +kernel
theorem dX7_undo_33 : decode cX7_undo 33 = .ok (.iconst 0, 1) := by decide +kernel
theorem dX7_undo_34 : decode cX7_undo 34 = .ok (.istore_n 2, 1) := by decide +kernel
theorem dX7_undo_35 : decode cX7_undo 35 = .ok (.iload_n 2, 1) := by decide +kernel
theorem dX7_undo_36 : decode cX7_undo 36 = .ok (.sipush 440, 3) := by decide +kernel
theorem dX7_undo_39 : decode cX7_undo 39 = .ok (.if_icmp .ge 27, 3) := by decide +kernel
theorem dX7_undo_42 : decode cX7_undo 42 = .ok (.aload_n 0, 1) := by decide +kernel
theorem dX7_undo_43 : decode cX7_undo 43 = .ok (.getfield 7, 3) := by decide +kernel
theorem dX7_undo_46 : decode cX7_undo 46 = .ok (.iload_n 2, 1) := by decide +kernel
theorem dX7_undo_47 : decode cX7_undo 47 = .ok (.aload_n 0, 1) := by decide +kernel
theorem dX7_undo_48 : decode cX7_undo 48 = .ok (.getfield 13, 3) := by decide +kernel
theorem dX7_undo_51 : decode cX7_undo 51 = .ok (.sipush 440, 3) := by decide +kernel
theorem dX7_undo_54 : decode cX7_undo 54 = .ok (.iload_n 1, 1) := by decide +kernel
theorem dX7_undo_55 : decode cX7_undo 55 = .ok (.imul, 1) := by decide +kernel
theorem dX7_undo_56 : decode cX7_undo 56 = .ok (.iload_n 2, 1) := by decide +kernel
theorem dX7_undo_57 : decode cX7_undo 57 = .ok (.iadd, 1) := by decide +kernel
theorem dX7_undo_58 : decode cX7_undo 58 = .ok (.iaload, 1) := by decide +kernel
theorem dX7_undo_59 : decode cX7_undo 59 = .ok (.iastore, 1) := by decide +kernel
theorem dX7_undo_60 : decode cX7_undo 60 = .ok (.iinc 2 1, 3) := by decide +kernel
theorem dX7_undo_63 : decode cX7_undo 63 = .ok (.goto (-28), 3) := by decide +kernel
theorem dX7_undo_66 : decode cX7_undo 66 = .ok (.aload_n 0, 1) := by decide +kernel
theorem dX7_undo_67 : decode cX7_undo 67 = .ok (.getfield 52, 3) := by decide +kernel
theorem dX7_undo_70 : decode cX7_undo 70 = .ok (.ireturn, 1) := by decide +kernel
theorem dX7_save_0 : decode cX7_save 0 = .ok (.iload_n 1, 1) := by decide +kernel
theorem dX7_save_1 : decode cX7_save 1 = .ok (.iconst 0, 1) := by decide +kernel
theorem dX7_save_2 : decode cX7_save 2 = .ok (.iconst 1, 1) := by decide +kernel
theorem dX7_save_3 : decode cX7_save 3 = .ok (.invokestatic 44, 3) := by decide +kernel
theorem dX7_save_6 : decode cX7_save 6 = .ok (.ifCond .ne 6, 3) := by decide +kernel
theorem dX7_save_9 : decode cX7_save 9 = .ok (.bipush (-2), 2) := by decide +kernel
theorem dX7_save_11 : decode cX7_save 11 = .ok (.ireturn, 1) := by decide +kernel
theorem dX7_save_12 : decode cX7_save 12 = .ok (.iconst 0, 1) := by decide +kernel
theorem dX7_save_13 : decode cX7_save 13 = .ok (.istore_n 2, 1) := by decide +kernel
theorem dX7_save_14 : decode cX7_save 14 = .ok (.iload_n 2, 1) := by decide +kernel
theorem dX7_save_15 : decode cX7_save 15 = .ok (.sipush 440, 3) := by decide +kernel
theorem dX7_save_18 : decode cX7_save 18 = .ok (.if_icmp .ge 27, 3) := by decide +kernel
theorem dX7_save_21 : decode cX7_save 21 = .ok (.aload_n 0, 1) := by decide +kernel
theorem dX7_save_22 : decode cX7_save 22 = .ok (.getfield 16, 3) := by decide +kernel
theorem dX7_save_25 : decode cX7_save 25 = .ok (.sipush 440, 3) := by decide +kernel
theorem dX7_save_28 : decode cX7_save 28 = .ok (.iload_n 1, 1) := by decide +kernel
theorem dX7_save_29 : decode cX7_save 29 = .ok (.imul, 1) := by decide +kernel
theorem dX7_save_30 : decode cX7_save 30 = .ok (.iload_n 2, 1) := by decide +kernel
theorem dX7_save_31 : decode cX7_save 31 = .ok (.iadd, 1) := by decide +kernel
theorem dX7_save_32 : decode cX7_save 32 = .ok (.aload_n 0, 1) := by decide +kernel
theorem dX7_save_33 : decode cX7_save 33 = .ok (.getfield 7, 3) := by decide +kernel
theorem dX7_save_36 : decode cX7_save 36 = .ok (.iload_n 2, 1) := by decide +kernel
theorem dX7_save_37 : decode cX7_save 37 = .ok (.iaload, 1) := by decide +kernel
theorem dX7_save_38 : decode cX7_save 38 = .ok (.iastore, 1) := by decide +kernel
theorem dX7_save_39 : decode cX7_save 39 = .ok (.iinc 2 1, 3) := by decide +kernel
theorem dX7_save_42 : decode cX7_save 42 = .ok (.goto (-28), 3) := by decide +kernel
theorem dX7_save_45 : decode cX7_save 45 = .ok (.aload_n 0, 1) := by decide +kernel
theorem dX7_save_46 : decode cX7_save 46 = .ok (.getfield 19, 3) := by decide +kernel
theorem dX7_save_49 : decode cX7_save 49 = .ok (.iload_n 1, 1) := by decide +kernel
theorem dX7_save_50 : decode cX7_save 50 = .ok (.iconst 1, 1) := by decide +kernel
theorem dX7_save_51 : decode cX7_save 51 = .ok (.bastore, 1) := by decide +kernel
theorem dX7_save_52 : decode cX7_save 52 = .ok (.aload_n 0, 1) := by decide +kernel
theorem dX7_save_53 : decode cX7_save 53 = .ok (.getfield 7, 3) := by decide +kernel
theorem dX7_save_56 : decode cX7_save 56 = .ok (.bipush 6, 2) := by decide +kernel
theorem dX7_save_58 : decode cX7_save 58 = .ok (.iaload, 1) := by decide +kernel
theorem dX7_save_59 : decode cX7_save 59 = .ok (.ireturn, 1) := by decide +kernel
theorem dX7_restore_0 : decode cX7_restore 0 = .ok (.iload_n 1, 1) := by decide +kernel
theorem dX7_restore_1 : decode cX7_restore 1 = .ok (.iconst 0, 1) := by decide +kernel
theorem dX7_restore_2 : decode cX7_restore 2 = .ok (.iconst 1, 1) := by decide +kernel
theorem dX7_restore_3 : decode cX7_restore 3 = .ok (.invokestatic 44, 3) := by decide +kernel
theorem dX7_restore_6 : decode cX7_restore 6 = .ok (.ifCond .ne 6, 3) := by decide +kernel
theorem dX7_restore_9 : decode cX7_restore 9 = .ok (.bipush (-2), 2) := by decide +kernel
theorem dX7_restore_11 : decode cX7_restore 11 = .ok (.ireturn, 1) := by decide +kernel
theorem dX7_restore_12 : decode cX7_restore 12 = .ok (.aload_n 0, 1) := by decide +kernel
theorem dX7_restore_13 : decode cX7_restore 13 = .ok (.getfield 19, 3) := by decide +kernel
theorem dX7_restore_16 : decode cX7_restore 16 = .ok (.iload_n 1, 1) := by decide +kernel
theorem dX7_restore_17 : decode cX7_restore 17 = .ok (.baload, 1) := by decide +kernel
theorem dX7_restore_18 : decode cX7_restore 18 = .ok (.ifCond .ne 6, 3) := by decide +kernel
theorem dX7_restore_21 : decode cX7_restore 21 = .ok (.bipush (-5), 2) := by decide +kernel
theorem dX7_restore_23 : decode cX7_restore 23 = .ok (.ireturn, 1) := by decide +kernel
theorem dX7_restore_24 : decode cX7_restore 24 = .ok (.aload_n 0, 1) := by decide +kernel
theorem dX7_restore_25 : decode cX7_restore 25 = .ok (.invokevirtual 59, 3) := by decide +kernel
theorem dX7_restore_28 : decode cX7_restore 28 = .ok (.iconst 0, 1) := by decide +kernel
theorem dX7_restore_29 : decode cX7_restore 29 = .ok (.istore_n 2, 1) := by decide +kernel
theorem dX7_restore_30 : decode cX7_restore 30 = .ok (.iload_n 2, 1) := by decide +kernel
theorem dX7_restore_31 : decode cX7_restore 31 = .ok (.sipush 440, 3) := by decide +kernel
theorem dX7_restore_34 : decode cX7_restore 34 = .ok (.if_icmp .ge 27, 3) := by decide +kernel
theorem dX7_restore_37 : decode cX7_restore 37 = .ok (.aload_n 0, 1) := by decide +kernel
theorem dX7_restore_38 : decode cX7_restore 38 = .ok (.getfield 7, 3) := by decide +kernel
theorem dX7_restore_41 : decode cX7_restore 41 = .ok (.iload_n 2, 1) := by decide +kernel
theorem dX7_restore_42 : decode cX7_restore 42 = .ok (.aload_n 0, 1) := by decide +kernel
theorem dX7_restore_43 : decode cX7_restore 43 = .ok (.getfield 16, 3) := by decide +kernel
theorem dX7_restore_46 : decode cX7_restore 46 = .ok (.sipush 440, 3) := by decide +kernel
theorem dX7_restore_49 : decode cX7_restore 49 = .ok (.iload_n 1, 1) := by decide +kernel
theorem dX7_restore_50 : decode cX7_restore 50 = .ok (.imul, 1) := by decide +kernel
theorem dX7_restore_51 : decode cX7_restore 51 = .ok (.iload_n 2, 1) := by decide +kernel
theorem dX7_restore_52 : decode cX7_restore 52 = .ok (.iadd, 1) := by decide +kernel
theorem dX7_restore_53 : decode cX7_restore 53 = .ok (.iaload, 1) := by decide +kernel
theorem dX7_restore_54 : decode cX7_restore 54 = .ok (.iastore, 1) := by decide +kernel
theorem dX7_restore_55 : decode cX7_restore 55 = .ok (.iinc 2 1, 3) := by decide +kernel
theorem dX7_restore_58 : decode cX7_restore 58 = .ok (.goto (-28), 3) := by decide +kernel
theorem dX7_restore_61 : decode cX7_restore 61 = .ok (.aload_n 0, 1) := by decide +kernel
theorem dX7_restore_62 : decode cX7_restore 62 = .ok (.getfield 7, 3) := by decide +kernel
theorem dX7_restore_65 : decode cX7_restore 65 = .ok (.bipush 6, 2) := by decide +kernel
theorem dX7_restore_67 : decode cX7_restore 67 = .ok (.iaload, 1) := by decide +kernel
theorem dX7_restore_68 : decode cX7_restore 68 = .ok (.ireturn, 1) := by decide +kernel
theorem dJ6_bitCount_0f7a4_0 : decode cJ6_bitCount_0f7a4 0 = .ok (.iload_n 0, 1) := by decide +kernel
theorem dJ6_bitCount_0f7a4_1 : decode cJ6_bitCount_0f7a4 1 = .ok (.iload_n 0, 1) := by decide +kernel
theorem dJ6_bitCount_0f7a4_2 : decode cJ6_bitCount_0f7a4 2 = .ok (.iconst 1, 1) := by decide +kernel
theorem dJ6_bitCount_0f7a4_3 : decode cJ6_bitCount_0f7a4 3 = .ok (.iushr, 1) := by decide +kernel
theorem dJ6_bitCount_0f7a4_4 : decode cJ6_bitCount_0f7a4 4 = .ok (.ldc_w 265, 3) := by decide +kernel
theorem dJ6_bitCount_0f7a4_7 : decode cJ6_bitCount_0f7a4 7 = .ok (.iand, 1) := by decide +kernel
theorem dJ6_bitCount_0f7a4_8 : decode cJ6_bitCount_0f7a4 8 = .ok (.isub, 1) := by decide +kernel
theorem dJ6_bitCount_0f7a4_9 : decode cJ6_bitCount_0f7a4 9 = .ok (.istore_n 0, 1) := by decide +kernel
theorem dJ6_bitCount_0f7a4_10 : decode cJ6_bitCount_0f7a4 10 = .ok (.iload_n 0, 1) := by decide +kernel
theorem dJ6_bitCount_0f7a4_11 : decode cJ6_bitCount_0f7a4 11 = .ok (.ldc_w 266, 3) := by decide +kernel
theorem dJ6_bitCount_0f7a4_14 : decode cJ6_bitCount_0f7a4 14 = .ok (.iand, 1) := by decide +kernel
theorem dJ6_bitCount_0f7a4_15 : decode cJ6_bitCount_0f7a4 15 = .ok (.iload_n 0, 1) := by decide +kernel
theorem dJ6_bitCount_0f7a4_16 : decode cJ6_bitCount_0f7a4 16 = .ok (.iconst 2, 1) := by decide +kernel
theorem dJ6_bitCount_0f7a4_17 : decode cJ6_bitCount_0f7a4 17 = .ok (.iushr, 1) := by decide +kernel
theorem dJ6_bitCount_0f7a4_18 : decode cJ6_bitCount_0f7a4 18 = .ok (.ldc_w 266, 3) := by decide +kernel
theorem dJ6_bitCount_0f7a4_21 : decode cJ6_bitCount_0f7a4 21 = .ok (.iand, 1) := by decide +kernel
theorem dJ6_bitCount_0f7a4_22 : decode cJ6_bitCount_0f7a4 22 = .ok (.iadd, 1) := by decide +kernel
theorem dJ6_bitCount_0f7a4_23 : decode cJ6_bitCount_0f7a4 23 = .ok (.istore_n 0, 1) := by decide +kernel
theorem dJ6_bitCount_0f7a4_24 : decode cJ6_bitCount_0f7a4 24 = .ok (.iload_n 0, 1) := by decide +kernel
theorem dJ6_bitCount_0f7a4_25 : decode cJ6_bitCount_0f7a4 25 = .ok (.iload_n 0, 1) := by decide +kernel
theorem dJ6_bitCount_0f7a4_26 : decode cJ6_bitCount_0f7a4 26 = .ok (.iconst 4, 1) := by decide +kernel
theorem dJ6_bitCount_0f7a4_27 : decode cJ6_bitCount_0f7a4 27 = .ok (.iushr, 1) := by decide +kernel
theorem dJ6_bitCount_0f7a4_28 : decode cJ6_bitCount_0f7a4 28 = .ok (.iadd, 1) := by decide +kernel
theorem dJ6_bitCount_0f7a4_29 : decode cJ6_bitCount_0f7a4 29 = .ok (.ldc_w 267, 3) := by decide +kernel
theorem dJ6_bitCount_0f7a4_32 : decode cJ6_bitCount_0f7a4 32 = .ok (.iand, 1) := by decide +kernel
theorem dJ6_bitCount_0f7a4_33 : decode cJ6_bitCount_0f7a4 33 = .ok (.istore_n 0, 1) := by decide +kernel
theorem dJ6_bitCount_0f7a4_34 : decode cJ6_bitCount_0f7a4 34 = .ok (.iload_n 0, 1) := by decide +kernel
theorem dJ6_bitCount_0f7a4_35 : decode cJ6_bitCount_0f7a4 35 = .ok (.iload_n 0, 1) := by decide +kernel
theorem dJ6_bitCount_0f7a4_36 : decode cJ6_bitCount_0f7a4 36 = .ok (.bipush 8, 2) := by decide +kernel
theorem dJ6_bitCount_0f7a4_38 : decode cJ6_bitCount_0f7a4 38 = .ok (.iushr, 1) := by decide +kernel
theorem dJ6_bitCount_0f7a4_39 : decode cJ6_bitCount_0f7a4 39 = .ok (.iadd, 1) := by decide +kernel
theorem dJ6_bitCount_0f7a4_40 : decode cJ6_bitCount_0f7a4 40 = .ok (.istore_n 0, 1) := by decide +kernel
theorem dJ6_bitCount_0f7a4_41 : decode cJ6_bitCount_0f7a4 41 = .ok (.iload_n 0, 1) := by decide +kernel
theorem dJ6_bitCount_0f7a4_42 : decode cJ6_bitCount_0f7a4 42 = .ok (.iload_n 0, 1) := by decide +kernel
theorem dJ6_bitCount_0f7a4_43 : decode cJ6_bitCount_0f7a4 43 = .ok (.bipush 16, 2) := by decide +kernel
theorem dJ6_bitCount_0f7a4_45 : decode cJ6_bitCount_0f7a4 45 = .ok (.iushr, 1) := by decide +kernel
theorem dJ6_bitCount_0f7a4_46 : decode cJ6_bitCount_0f7a4 46 = .ok (.iadd, 1) := by decide +kernel
theorem dJ6_bitCount_0f7a4_47 : decode cJ6_bitCount_0f7a4 47 = .ok (.istore_n 0, 1) := by decide +kernel
theorem dJ6_bitCount_0f7a4_48 : decode cJ6_bitCount_0f7a4 48 = .ok (.iload_n 0, 1) := by decide +kernel
theorem dJ6_bitCount_0f7a4_49 : decode cJ6_bitCount_0f7a4 49 = .ok (.bipush 63, 2) := by decide +kernel
theorem dJ6_bitCount_0f7a4_51 : decode cJ6_bitCount_0f7a4 51 = .ok (.iand, 1) := by decide +kernel
theorem dJ6_bitCount_0f7a4_52 : decode cJ6_bitCount_0f7a4 52 = .ok (.ireturn, 1) := by decide +kernel
theorem dJ9_abs_0f7a4_0 : decode cJ9_abs_0f7a4 0 = .ok (.iload_n 0, 1) := by decide +kernel
theorem dJ9_abs_0f7a4_1 : decode cJ9_abs_0f7a4 1 = .ok (.ifCond .ge 8, 3) := by decide +kernel
theorem dJ9_abs_0f7a4_4 : decode cJ9_abs_0f7a4 4 = .ok (.iload_n 0, 1) := by decide +kernel
theorem dJ9_abs_0f7a4_5 : decode cJ9_abs_0f7a4 5 = .ok (.ineg, 1) := by decide +kernel
theorem dJ9_abs_0f7a4_6 : decode cJ9_abs_0f7a4 6 = .ok (.goto 4, 3) := by decide +kernel
theorem dJ9_abs_0f7a4_9 : decode cJ9_abs_0f7a4 9 = .ok (.iload_n 0, 1) := by decide +kernel
theorem dJ9_abs_0f7a4_10 : decode cJ9_abs_0f7a4 10 = .ok (.ireturn, 1) := by decide +kernel
theorem dJ9_max_7cf53_0 : decode cJ9_max_7cf53 0 = .ok (.iload_n 0, 1) := by decide +kernel
theorem dJ9_max_7cf53_1 : decode cJ9_max_7cf53 1 = .ok (.iload_n 1, 1) := by decide +kernel
theorem dJ9_max_7cf53_2 : decode cJ9_max_7cf53 2 = .ok (.if_icmp .lt 7, 3) := by decide +kernel
theorem dJ9_max_7cf53_5 : decode cJ9_max_7cf53 5 = .ok (.iload_n 0, 1) := by decide +kernel
theorem dJ9_max_7cf53_6 : decode cJ9_max_7cf53 6 = .ok (.goto 4, 3) := by decide +kernel
theorem dJ9_max_7cf53_9 : decode cJ9_max_7cf53 9 = .ok (.iload_n 1, 1) := by decide +kernel
theorem dJ9_max_7cf53_10 : decode cJ9_max_7cf53 10 = .ok (.ireturn, 1) := by decide +kernel
theorem dJ9_min_7cf53_0 : decode cJ9_min_7cf53 0 = .ok (.iload_n 0, 1) := by decide +kernel
theorem dJ9_min_7cf53_1 : decode cJ9_min_7cf53 1 = .ok (.iload_n 1, 1) := by decide +kernel
theorem dJ9_min_7cf53_2 : decode cJ9_min_7cf53 2 = .ok (.if_icmp .gt 7, 3) := by decide +kernel
theorem dJ9_min_7cf53_5 : decode cJ9_min_7cf53 5 = .ok (.iload_n 0, 1) := by decide +kernel
theorem dJ9_min_7cf53_6 : decode cJ9_min_7cf53 6 = .ok (.goto 4, 3) := by decide +kernel
theorem dJ9_min_7cf53_9 : decode cJ9_min_7cf53 9 = .ok (.iload_n 1, 1) := by decide +kernel
theorem dJ9_min_7cf53_10 : decode cJ9_min_7cf53 10 = .ok (.ireturn, 1) := by decide +kernel
theorem dL_law_0 : decode cL_law 0 = .ok (.new 7, 3) := by decide +kernel
theorem dL_law_3 : decode cL_law 3 = .ok (.dup, 1) := by decide +kernel
theorem dL_law_4 : decode cL_law 4 = .ok (.invokespecial 9, 3) := by decide +kernel
theorem dL_law_7 : decode cL_law 7 = .ok (.astore_n 1, 1) := by decide +kernel
theorem dL_law_8 : decode cL_law 8 = .ok (.new 10, 3) := by decide +kernel
theorem dL_law_11 : decode cL_law 11 = .ok (.dup, 1) := by decide +kernel
theorem dL_law_12 : decode cL_law 12 = .ok (.invokespecial 12, 3) := by decide +kernel
theorem dL_law_15 : decode cL_law 15 = .ok (.astore_n 2, 1) := by decide +kernel
theorem dL_law_16 : decode cL_law 16 = .ok (.iconst 0, 1) := by decide +kernel
theorem dL_law_17 : decode cL_law 17 = .ok (.istore_n 3, 1) := by decide +kernel
theorem dL_law_18 : decode cL_law 18 = .ok (.iload_n 3, 1) := by decide +kernel
theorem dL_law_19 : decode cL_law 19 = .ok (.aload_n 0, 1) := by decide +kernel
theorem dL_law_20 : decode cL_law 20 = .ok (.arraylength, 1) := by decide +kernel
theorem dL_law_21 : decode cL_law 21 = .ok (.iconst 4, 1) := by decide +kernel
theorem dL_law_22 : decode cL_law 22 = .ok (.isub, 1) := by decide +kernel
theorem dL_law_23 : decode cL_law 23 = .ok (.if_icmp .gt 786, 3) := by decide +kernel
theorem dL_law_26 : decode cL_law 26 = .ok (.aload_n 0, 1) := by decide +kernel
theorem dL_law_27 : decode cL_law 27 = .ok (.iload_n 3, 1) := by decide +kernel
theorem dL_law_28 : decode cL_law 28 = .ok (.iaload, 1) := by decide +kernel
theorem dL_law_29 : decode cL_law 29 = .ok (.bipush 31, 2) := by decide +kernel
theorem dL_law_31 : decode cL_law 31 = .ok (.iand, 1) := by decide +kernel
theorem dL_law_32 : decode cL_law 32 = .ok (.tableswitch 771 0 24 #[116, 149, 182, 205, 238, 281, 314, 337, 360, 393, 426, 459, 482, 505, 528, 551, 584, 607, 620, 673, 686, 699, 712, 725, 748], 116) := by decide +kernel
theorem dL_law_148 : decode cL_law 148 = .ok (.aload_n 1, 1) := by decide +kernel
theorem dL_law_149 : decode cL_law 149 = .ok (.aload_n 0, 1) := by decide +kernel
theorem dL_law_150 : decode cL_law 150 = .ok (.iload_n 3, 1) := by decide +kernel
theorem dL_law_151 : decode cL_law 151 = .ok (.iconst 1, 1) := by decide +kernel
theorem dL_law_152 : decode cL_law 152 = .ok (.iadd, 1) := by decide +kernel
theorem dL_law_153 : decode cL_law 153 = .ok (.iaload, 1) := by decide +kernel
theorem dL_law_154 : decode cL_law 154 = .ok (.aload_n 0, 1) := by decide +kernel
theorem dL_law_155 : decode cL_law 155 = .ok (.iload_n 3, 1) := by decide +kernel
theorem dL_law_156 : decode cL_law 156 = .ok (.iconst 2, 1) := by decide +kernel
theorem dL_law_157 : decode cL_law 157 = .ok (.iadd, 1) := by decide +kernel
theorem dL_law_158 : decode cL_law 158 = .ok (.iaload, 1) := by decide +kernel
theorem dL_law_159 : decode cL_law 159 = .ok (.invokevirtual 13, 3) := by decide +kernel
theorem dL_law_162 : decode cL_law 162 = .ok (.aload_n 2, 1) := by decide +kernel
theorem dL_law_163 : decode cL_law 163 = .ok (.aload_n 0, 1) := by decide +kernel
theorem dL_law_164 : decode cL_law 164 = .ok (.iload_n 3, 1) := by decide +kernel
theorem dL_law_165 : decode cL_law 165 = .ok (.iconst 1, 1) := by decide +kernel
theorem dL_law_166 : decode cL_law 166 = .ok (.iadd, 1) := by decide +kernel
theorem dL_law_167 : decode cL_law 167 = .ok (.iaload, 1) := by decide +kernel
theorem dL_law_168 : decode cL_law 168 = .ok (.aload_n 0, 1) := by decide +kernel
theorem dL_law_169 : decode cL_law 169 = .ok (.iload_n 3, 1) := by decide +kernel
theorem dL_law_170 : decode cL_law 170 = .ok (.iconst 2, 1) := by decide +kernel
theorem dL_law_171 : decode cL_law 171 = .ok (.iadd, 1) := by decide +kernel
theorem dL_law_172 : decode cL_law 172 = .ok (.iaload, 1) := by decide +kernel
theorem dL_law_173 : decode cL_law 173 = .ok (.invokevirtual 17, 3) := by decide +kernel
theorem dL_law_176 : decode cL_law 176 = .ok (.if_icmp .eq 627, 3) := by decide +kernel
theorem dL_law_179 : decode cL_law 179 = .ok (.iconst 0, 1) := by decide +kernel
theorem dL_law_180 : decode cL_law 180 = .ok (.ireturn, 1) := by decide +kernel
theorem dL_law_181 : decode cL_law 181 = .ok (.aload_n 1, 1) := by decide +kernel
theorem dL_law_182 : decode cL_law 182 = .ok (.aload_n 0, 1) := by decide +kernel
theorem dL_law_183 : decode cL_law 183 = .ok (.iload_n 3, 1) := by decide +kernel
theorem dL_law_184 : decode cL_law 184 = .ok (.iconst 1, 1) := by decide +kernel
theorem dL_law_185 : decode cL_law 185 = .ok (.iadd, 1) := by decide +kernel
theorem dL_law_186 : decode cL_law 186 = .ok (.iaload, 1) := by decide +kernel
theorem dL_law_187 : decode cL_law 187 = .ok (.aload_n 0, 1) := by decide +kernel
theorem dL_law_188 : decode cL_law 188 = .ok (.iload_n 3, 1) := by decide +kernel
theorem dL_law_189 : decode cL_law 189 = .ok (.iconst 2, 1) := by decide +kernel
theorem dL_law_190 : decode cL_law 190 = .ok (.iadd, 1) := by decide +kernel
theorem dL_law_191 : decode cL_law 191 = .ok (.iaload, 1) := by decide +kernel
theorem dL_law_192 : decode cL_law 192 = .ok (.invokevirtual 18, 3) := by decide +kernel
theorem dL_law_195 : decode cL_law 195 = .ok (.aload_n 2, 1) := by decide +kernel
theorem dL_law_196 : decode cL_law 196 = .ok (.aload_n 0, 1) := by decide +kernel
theorem dL_law_197 : decode cL_law 197 = .ok (.iload_n 3, 1) := by decide +kernel
theorem dL_law_198 : decode cL_law 198 = .ok (.iconst 1, 1) := by decide +kernel
theorem dL_law_199 : decode cL_law 199 = .ok (.iadd, 1) := by decide +kernel
theorem dL_law_200 : decode cL_law 200 = .ok (.iaload, 1) := by decide +kernel
theorem dL_law_201 : decode cL_law 201 = .ok (.aload_n 0, 1) := by decide +kernel
theorem dL_law_202 : decode cL_law 202 = .ok (.iload_n 3, 1) := by decide +kernel
theorem dL_law_203 : decode cL_law 203 = .ok (.iconst 2, 1) := by decide +kernel
theorem dL_law_204 : decode cL_law 204 = .ok (.iadd, 1) := by decide +kernel
theorem dL_law_205 : decode cL_law 205 = .ok (.iaload, 1) := by decide +kernel
theorem dL_law_206 : decode cL_law 206 = .ok (.invokevirtual 21, 3) := by decide +kernel
theorem dL_law_209 : decode cL_law 209 = .ok (.if_icmp .eq 594, 3) := by decide +kernel
theorem dL_law_212 : decode cL_law 212 = .ok (.iconst 0, 1) := by decide +kernel
theorem dL_law_213 : decode cL_law 213 = .ok (.ireturn, 1) := by decide +kernel
theorem dL_law_214 : decode cL_law 214 = .ok (.aload_n 1, 1) := by decide +kernel
theorem dL_law_215 : decode cL_law 215 = .ok (.aload_n 0, 1) := by decide +kernel
theorem dL_law_216 : decode cL_law 216 = .ok (.iload_n 3, 1) := by decide +kernel
theorem dL_law_217 : decode cL_law 217 = .ok (.iconst 1, 1) := by decide +kernel
theorem dL_law_218 : decode cL_law 218 = .ok (.iadd, 1) := by decide +kernel
theorem dL_law_219 : decode cL_law 219 = .ok (.iaload, 1) := by decide +kernel
theorem dL_law_220 : decode cL_law 220 = .ok (.invokevirtual 22, 3) := by decide +kernel
theorem dL_law_223 : decode cL_law 223 = .ok (.aload_n 2, 1) := by decide +kernel
theorem dL_law_224 : decode cL_law 224 = .ok (.aload_n 0, 1) := by decide +kernel
theorem dL_law_225 : decode cL_law 225 = .ok (.iload_n 3, 1) := by decide +kernel
theorem dL_law_226 : decode cL_law 226 = .ok (.iconst 1, 1) := by decide +kernel
theorem dL_law_227 : decode cL_law 227 = .ok (.iadd, 1) := by decide +kernel
theorem dL_law_228 : decode cL_law 228 = .ok (.iaload, 1) := by decide +kernel
theorem dL_law_229 : decode cL_law 229 = .ok (.invokevirtual 26, 3) := by decide +kernel
theorem dL_law_232 : decode cL_law 232 = .ok (.if_icmp .eq 571, 3) := by decide +kernel
theorem dL_law_235 : decode cL_law 235 = .ok (.iconst 0, 1) := by decide +kernel
theorem dL_law_236 : decode cL_law 236 = .ok (.ireturn, 1) := by decide +kernel
theorem dL_law_237 : decode cL_law 237 = .ok (.aload_n 1, 1) := by decide +kernel
theorem dL_law_238 : decode cL_law 238 = .ok (.aload_n 0, 1) := by decide +kernel
theorem dL_law_239 : decode cL_law 239 = .ok (.iload_n 3, 1) := by decide +kernel
theorem dL_law_240 : decode cL_law 240 = .ok (.iconst 1, 1) := by decide +kernel
theorem dL_law_241 : decode cL_law 241 = .ok (.iadd, 1) := by decide +kernel
theorem dL_law_242 : decode cL_law 242 = .ok (.iaload, 1) := by decide +kernel
theorem dL_law_243 : decode cL_law 243 = .ok (.aload_n 0, 1) := by decide +kernel
theorem dL_law_244 : decode cL_law 244 = .ok (.iload_n 3, 1) := by decide +kernel
theorem dL_law_245 : decode cL_law 245 = .ok (.iconst 2, 1) := by decide +kernel
theorem dL_law_246 : decode cL_law 246 = .ok (.iadd, 1) := by decide +kernel
theorem dL_law_247 : decode cL_law 247 = .ok (.iaload, 1) := by decide +kernel
theorem dL_law_248 : decode cL_law 248 = .ok (.invokevirtual 27, 3) := by decide +kernel
theorem dL_law_251 : decode cL_law 251 = .ok (.aload_n 2, 1) := by decide +kernel
theorem dL_law_252 : decode cL_law 252 = .ok (.aload_n 0, 1) := by decide +kernel
theorem dL_law_253 : decode cL_law 253 = .ok (.iload_n 3, 1) := by decide +kernel
theorem dL_law_254 : decode cL_law 254 = .ok (.iconst 1, 1) := by decide +kernel
theorem dL_law_255 : decode cL_law 255 = .ok (.iadd, 1) := by decide +kernel
theorem dL_law_256 : decode cL_law 256 = .ok (.iaload, 1) := by decide +kernel
theorem dL_law_257 : decode cL_law 257 = .ok (.aload_n 0, 1) := by decide +kernel
theorem dL_law_258 : decode cL_law 258 = .ok (.iload_n 3, 1) := by decide +kernel
theorem dL_law_259 : decode cL_law 259 = .ok (.iconst 2, 1) := by decide +kernel
theorem dL_law_260 : decode cL_law 260 = .ok (.iadd, 1) := by decide +kernel
theorem dL_law_261 : decode cL_law 261 = .ok (.iaload, 1) := by decide +kernel
theorem dL_law_262 : decode cL_law 262 = .ok (.invokevirtual 30, 3) := by decide +kernel
theorem dL_law_265 : decode cL_law 265 = .ok (.if_icmp .eq 538, 3) := by decide +kernel
theorem dL_law_268 : decode cL_law 268 = .ok (.iconst 0, 1) := by decide +kernel
theorem dL_law_269 : decode cL_law 269 = .ok (.ireturn, 1) := by decide +kernel
theorem dL_law_270 : decode cL_law 270 = .ok (.aload_n 1, 1) := by decide +kernel
theorem dL_law_271 : decode cL_law 271 = .ok (.aload_n 0, 1) := by decide +kernel
theorem dL_law_272 : decode cL_law 272 = .ok (.iload_n 3, 1) := by decide +kernel
theorem dL_law_273 : decode cL_law 273 = .ok (.iconst 1, 1) := by decide +kernel
theorem dL_law_274 : decode cL_law 274 = .ok (.iadd, 1) := by decide +kernel
theorem dL_law_275 : decode cL_law 275 = .ok (.iaload, 1) := by decide +kernel
theorem dL_law_276 : decode cL_law 276 = .ok (.aload_n 0, 1) := by decide +kernel
theorem dL_law_277 : decode cL_law 277 = .ok (.iload_n 3, 1) := by decide +kernel
theorem dL_law_278 : decode cL_law 278 = .ok (.iconst 2, 1) := by decide +kernel
theorem dL_law_279 : decode cL_law 279 = .ok (.iadd, 1) := by decide +kernel
theorem dL_law_280 : decode cL_law 280 = .ok (.iaload, 1) := by decide +kernel
theorem dL_law_281 : decode cL_law 281 = .ok (.aload_n 0, 1) := by decide +kernel
theorem dL_law_282 : decode cL_law 282 = .ok (.iload_n 3, 1) := by decide +kernel
theorem dL_law_283 : decode cL_law 283 = .ok (.iconst 3, 1) := by decide +kernel
theorem dL_law_284 : decode cL_law 284 = .ok (.iadd, 1) := by decide +kernel
theorem dL_law_285 : decode cL_law 285 = .ok (.iaload, 1) := by decide +kernel
theorem dL_law_286 : decode cL_law 286 = .ok (.invokevirtual 31, 3) := by decide +kernel
theorem dL_law_289 : decode cL_law 289 = .ok (.aload_n 2, 1) := by decide +kernel
theorem dL_law_290 : decode cL_law 290 = .ok (.aload_n 0, 1) := by decide +kernel
theorem dL_law_291 : decode cL_law 291 = .ok (.iload_n 3, 1) := by decide +kernel
theorem dL_law_292 : decode cL_law 292 = .ok (.iconst 1, 1) := by decide +kernel
theorem dL_law_293 : decode cL_law 293 = .ok (.iadd, 1) := by decide +kernel
theorem dL_law_294 : decode cL_law 294 = .ok (.iaload, 1) := by decide +kernel
theorem dL_law_295 : decode cL_law 295 = .ok (.aload_n 0, 1) := by decide +kernel
theorem dL_law_296 : decode cL_law 296 = .ok (.iload_n 3, 1) := by decide +kernel
theorem dL_law_297 : decode cL_law 297 = .ok (.iconst 2, 1) := by decide +kernel
theorem dL_law_298 : decode cL_law 298 = .ok (.iadd, 1) := by decide +kernel
theorem dL_law_299 : decode cL_law 299 = .ok (.iaload, 1) := by decide +kernel
theorem dL_law_300 : decode cL_law 300 = .ok (.aload_n 0, 1) := by decide +kernel
theorem dL_law_301 : decode cL_law 301 = .ok (.iload_n 3, 1) := by decide +kernel
theorem dL_law_302 : decode cL_law 302 = .ok (.iconst 3, 1) := by decide +kernel
theorem dL_law_303 : decode cL_law 303 = .ok (.iadd, 1) := by decide +kernel
theorem dL_law_304 : decode cL_law 304 = .ok (.iaload, 1) := by decide +kernel
theorem dL_law_305 : decode cL_law 305 = .ok (.invokevirtual 35, 3) := by decide +kernel
theorem dL_law_308 : decode cL_law 308 = .ok (.if_icmp .eq 495, 3) := by decide +kernel
theorem dL_law_311 : decode cL_law 311 = .ok (.iconst 0, 1) := by decide +kernel
theorem dL_law_312 : decode cL_law 312 = .ok (.ireturn, 1) := by decide +kernel
theorem dL_law_313 : decode cL_law 313 = .ok (.aload_n 1, 1) := by decide +kernel
theorem dL_law_314 : decode cL_law 314 = .ok (.aload_n 0, 1) := by decide +kernel
theorem dL_law_315 : decode cL_law 315 = .ok (.iload_n 3, 1) := by decide +kernel
theorem dL_law_316 : decode cL_law 316 = .ok (.iconst 1, 1) := by decide +kernel
theorem dL_law_317 : decode cL_law 317 = .ok (.iadd, 1) := by decide +kernel
theorem dL_law_318 : decode cL_law 318 = .ok (.iaload, 1) := by decide +kernel
theorem dL_law_319 : decode cL_law 319 = .ok (.aload_n 0, 1) := by decide +kernel
theorem dL_law_320 : decode cL_law 320 = .ok (.iload_n 3, 1) := by decide +kernel
theorem dL_law_321 : decode cL_law 321 = .ok (.iconst 2, 1) := by decide +kernel
theorem dL_law_322 : decode cL_law 322 = .ok (.iadd, 1) := by decide +kernel
theorem dL_law_323 : decode cL_law 323 = .ok (.iaload, 1) := by decide +kernel
theorem dL_law_324 : decode cL_law 324 = .ok (.invokevirtual 36, 3) := by decide +kernel
theorem dL_law_327 : decode cL_law 327 = .ok (.aload_n 2, 1) := by decide +kernel
theorem dL_law_328 : decode cL_law 328 = .ok (.aload_n 0, 1) := by decide +kernel
theorem dL_law_329 : decode cL_law 329 = .ok (.iload_n 3, 1) := by decide +kernel
theorem dL_law_330 : decode cL_law 330 = .ok (.iconst 1, 1) := by decide +kernel
theorem dL_law_331 : decode cL_law 331 = .ok (.iadd, 1) := by decide +kernel
theorem dL_law_332 : decode cL_law 332 = .ok (.iaload, 1) := by decide +kernel
theorem dL_law_333 : decode cL_law 333 = .ok (.aload_n 0, 1) := by decide +kernel
theorem dL_law_334 : decode cL_law 334 = .ok (.iload_n 3, 1) := by decide +kernel
theorem dL_law_335 : decode cL_law 335 = .ok (.iconst 2, 1) := by decide +kernel
theorem dL_law_336 : decode cL_law 336 = .ok (.iadd, 1) := by decide +kernel
theorem dL_law_337 : decode cL_law 337 = .ok (.iaload, 1) := by decide +kernel
theorem dL_law_338 : decode cL_law 338 = .ok (.invokevirtual 39, 3) := by decide +kernel
theorem dL_law_341 : decode cL_law 341 = .ok (.if_icmp .eq 462, 3) := by decide +kernel
theorem dL_law_344 : decode cL_law 344 = .ok (.iconst 0, 1) := by decide +kernel
theorem dL_law_345 : decode cL_law 345 = .ok (.ireturn, 1) := by decide +kernel
theorem dL_law_346 : decode cL_law 346 = .ok (.aload_n 1, 1) := by decide +kernel
theorem dL_law_347 : decode cL_law 347 = .ok (.aload_n 0, 1) := by decide +kernel
theorem dL_law_348 : decode cL_law 348 = .ok (.iload_n 3, 1) := by decide +kernel
theorem dL_law_349 : decode cL_law 349 = .ok (.iconst 1, 1) := by decide +kernel
theorem dL_law_350 : decode cL_law 350 = .ok (.iadd, 1) := by decide +kernel
theorem dL_law_351 : decode cL_law 351 = .ok (.iaload, 1) := by decide +kernel
theorem dL_law_352 : decode cL_law 352 = .ok (.invokevirtual 40, 3) := by decide +kernel
theorem dL_law_355 : decode cL_law 355 = .ok (.aload_n 2, 1) := by decide +kernel
theorem dL_law_356 : decode cL_law 356 = .ok (.aload_n 0, 1) := by decide +kernel
theorem dL_law_357 : decode cL_law 357 = .ok (.iload_n 3, 1) := by decide +kernel
theorem dL_law_358 : decode cL_law 358 = .ok (.iconst 1, 1) := by decide +kernel
theorem dL_law_359 : decode cL_law 359 = .ok (.iadd, 1) := by decide +kernel
theorem dL_law_360 : decode cL_law 360 = .ok (.iaload, 1) := by decide +kernel
theorem dL_law_361 : decode cL_law 361 = .ok (.invokevirtual 43, 3) := by decide +kernel
theorem dL_law_364 : decode cL_law 364 = .ok (.if_icmp .eq 439, 3) := by decide +kernel
theorem dL_law_367 : decode cL_law 367 = .ok (.iconst 0, 1) := by decide +kernel
theorem dL_law_368 : decode cL_law 368 = .ok (.ireturn, 1) := by decide +kernel
theorem dL_law_369 : decode cL_law 369 = .ok (.aload_n 1, 1) := by decide +kernel
theorem dL_law_370 : decode cL_law 370 = .ok (.aload_n 0, 1) := by decide +kernel
theorem dL_law_371 : decode cL_law 371 = .ok (.iload_n 3, 1) := by decide +kernel
theorem dL_law_372 : decode cL_law 372 = .ok (.iconst 1, 1) := by decide +kernel
theorem dL_law_373 : decode cL_law 373 = .ok (.iadd, 1) := by decide +kernel
theorem dL_law_374 : decode cL_law 374 = .ok (.iaload, 1) := by decide +kernel
theorem dL_law_375 : decode cL_law 375 = .ok (.invokevirtual 44, 3) := by decide +kernel
theorem dL_law_378 : decode cL_law 378 = .ok (.aload_n 2, 1) := by decide +kernel
theorem dL_law_379 : decode cL_law 379 = .ok (.aload_n 0, 1) := by decide +kernel
theorem dL_law_380 : decode cL_law 380 = .ok (.iload_n 3, 1) := by decide +kernel
theorem dL_law_381 : decode cL_law 381 = .ok (.iconst 1, 1) := by decide +kernel
theorem dL_law_382 : decode cL_law 382 = .ok (.iadd, 1) := by decide +kernel
theorem dL_law_383 : decode cL_law 383 = .ok (.iaload, 1) := by decide +kernel
theorem dL_law_384 : decode cL_law 384 = .ok (.invokevirtual 47, 3) := by decide +kernel
theorem dL_law_387 : decode cL_law 387 = .ok (.if_icmp .eq 416, 3) := by decide +kernel
theorem dL_law_390 : decode cL_law 390 = .ok (.iconst 0, 1) := by decide +kernel
theorem dL_law_391 : decode cL_law 391 = .ok (.ireturn, 1) := by decide +kernel
theorem dL_law_392 : decode cL_law 392 = .ok (.aload_n 1, 1) := by decide +kernel
theorem dL_law_393 : decode cL_law 393 = .ok (.aload_n 0, 1) := by decide +kernel
theorem dL_law_394 : decode cL_law 394 = .ok (.iload_n 3, 1) := by decide +kernel
theorem dL_law_395 : decode cL_law 395 = .ok (.iconst 1, 1) := by decide +kernel
theorem dL_law_396 : decode cL_law 396 = .ok (.iadd, 1) := by decide +kernel
theorem dL_law_397 : decode cL_law 397 = .ok (.iaload, 1) := by decide +kernel
theorem dL_law_398 : decode cL_law 398 = .ok (.aload_n 0, 1) := by decide +kernel
theorem dL_law_399 : decode cL_law 399 = .ok (.iload_n 3, 1) := by decide +kernel
theorem dL_law_400 : decode cL_law 400 = .ok (.iconst 2, 1) := by decide +kernel
theorem dL_law_401 : decode cL_law 401 = .ok (.iadd, 1) := by decide +kernel
theorem dL_law_402 : decode cL_law 402 = .ok (.iaload, 1) := by decide +kernel
theorem dL_law_403 : decode cL_law 403 = .ok (.invokevirtual 48, 3) := by decide +kernel
theorem dL_law_406 : decode cL_law 406 = .ok (.aload_n 2, 1) := by decide +kernel
theorem dL_law_407 : decode cL_law 407 = .ok (.aload_n 0, 1) := by decide +kernel
theorem dL_law_408 : decode cL_law 408 = .ok (.iload_n 3, 1) := by decide +kernel
theorem dL_law_409 : decode cL_law 409 = .ok (.iconst 1, 1) := by decide +kernel
theorem dL_law_410 : decode cL_law 410 = .ok (.iadd, 1) := by decide +kernel
theorem dL_law_411 : decode cL_law 411 = .ok (.iaload, 1) := by decide +kernel
theorem dL_law_412 : decode cL_law 412 = .ok (.aload_n 0, 1) := by decide +kernel
theorem dL_law_413 : decode cL_law 413 = .ok (.iload_n 3, 1) := by decide +kernel
theorem dL_law_414 : decode cL_law 414 = .ok (.iconst 2, 1) := by decide +kernel
theorem dL_law_415 : decode cL_law 415 = .ok (.iadd, 1) := by decide +kernel
theorem dL_law_416 : decode cL_law 416 = .ok (.iaload, 1) := by decide +kernel
theorem dL_law_417 : decode cL_law 417 = .ok (.invokevirtual 51, 3) := by decide +kernel
theorem dL_law_420 : decode cL_law 420 = .ok (.if_icmp .eq 383, 3) := by decide +kernel
theorem dL_law_423 : decode cL_law 423 = .ok (.iconst 0, 1) := by decide +kernel
theorem dL_law_424 : decode cL_law 424 = .ok (.ireturn, 1) := by decide +kernel
theorem dL_law_425 : decode cL_law 425 = .ok (.aload_n 1, 1) := by decide +kernel
theorem dL_law_426 : decode cL_law 426 = .ok (.aload_n 0, 1) := by decide +kernel
theorem dL_law_427 : decode cL_law 427 = .ok (.iload_n 3, 1) := by decide +kernel
theorem dL_law_428 : decode cL_law 428 = .ok (.iconst 1, 1) := by decide +kernel
theorem dL_law_429 : decode cL_law 429 = .ok (.iadd, 1) := by decide +kernel
theorem dL_law_430 : decode cL_law 430 = .ok (.iaload, 1) := by decide +kernel
theorem dL_law_431 : decode cL_law 431 = .ok (.aload_n 0, 1) := by decide +kernel
theorem dL_law_432 : decode cL_law 432 = .ok (.iload_n 3, 1) := by decide +kernel
theorem dL_law_433 : decode cL_law 433 = .ok (.iconst 2, 1) := by decide +kernel
theorem dL_law_434 : decode cL_law 434 = .ok (.iadd, 1) := by decide +kernel
theorem dL_law_435 : decode cL_law 435 = .ok (.iaload, 1) := by decide +kernel
theorem dL_law_436 : decode cL_law 436 = .ok (.invokevirtual 52, 3) := by decide +kernel
theorem dL_law_439 : decode cL_law 439 = .ok (.aload_n 2, 1) := by decide +kernel
theorem dL_law_440 : decode cL_law 440 = .ok (.aload_n 0, 1) := by decide +kernel
theorem dL_law_441 : decode cL_law 441 = .ok (.iload_n 3, 1) := by decide +kernel
theorem dL_law_442 : decode cL_law 442 = .ok (.iconst 1, 1) := by decide +kernel
theorem dL_law_443 : decode cL_law 443 = .ok (.iadd, 1) := by decide +kernel
theorem dL_law_444 : decode cL_law 444 = .ok (.iaload, 1) := by decide +kernel
theorem dL_law_445 : decode cL_law 445 = .ok (.aload_n 0, 1) := by decide +kernel
theorem dL_law_446 : decode cL_law 446 = .ok (.iload_n 3, 1) := by decide +kernel
theorem dL_law_447 : decode cL_law 447 = .ok (.iconst 2, 1) := by decide +kernel
theorem dL_law_448 : decode cL_law 448 = .ok (.iadd, 1) := by decide +kernel
theorem dL_law_449 : decode cL_law 449 = .ok (.iaload, 1) := by decide +kernel
theorem dL_law_450 : decode cL_law 450 = .ok (.invokevirtual 55, 3) := by decide +kernel
theorem dL_law_453 : decode cL_law 453 = .ok (.if_icmp .eq 350, 3) := by decide +kernel
theorem dL_law_456 : decode cL_law 456 = .ok (.iconst 0, 1) := by decide +kernel
theorem dL_law_457 : decode cL_law 457 = .ok (.ireturn, 1) := by decide +kernel
theorem dL_law_458 : decode cL_law 458 = .ok (.aload_n 1, 1) := by decide +kernel
theorem dL_law_459 : decode cL_law 459 = .ok (.aload_n 0, 1) := by decide +kernel
theorem dL_law_460 : decode cL_law 460 = .ok (.iload_n 3, 1) := by decide +kernel
theorem dL_law_461 : decode cL_law 461 = .ok (.iconst 1, 1) := by decide +kernel
theorem dL_law_462 : decode cL_law 462 = .ok (.iadd, 1) := by decide +kernel
theorem dL_law_463 : decode cL_law 463 = .ok (.iaload, 1) := by decide +kernel
theorem dL_law_464 : decode cL_law 464 = .ok (.aload_n 0, 1) := by decide +kernel
theorem dL_law_465 : decode cL_law 465 = .ok (.iload_n 3, 1) := by decide +kernel
theorem dL_law_466 : decode cL_law 466 = .ok (.iconst 2, 1) := by decide +kernel
theorem dL_law_467 : decode cL_law 467 = .ok (.iadd, 1) := by decide +kernel
theorem dL_law_468 : decode cL_law 468 = .ok (.iaload, 1) := by decide +kernel
theorem dL_law_469 : decode cL_law 469 = .ok (.invokevirtual 56, 3) := by decide +kernel
theorem dL_law_472 : decode cL_law 472 = .ok (.aload_n 2, 1) := by decide +kernel
theorem dL_law_473 : decode cL_law 473 = .ok (.aload_n 0, 1) := by decide +kernel
theorem dL_law_474 : decode cL_law 474 = .ok (.iload_n 3, 1) := by decide +kernel
theorem dL_law_475 : decode cL_law 475 = .ok (.iconst 1, 1) := by decide +kernel
theorem dL_law_476 : decode cL_law 476 = .ok (.iadd, 1) := by decide +kernel
theorem dL_law_477 : decode cL_law 477 = .ok (.iaload, 1) := by decide +kernel
theorem dL_law_478 : decode cL_law 478 = .ok (.aload_n 0, 1) := by decide +kernel
theorem dL_law_479 : decode cL_law 479 = .ok (.iload_n 3, 1) := by decide +kernel
theorem dL_law_480 : decode cL_law 480 = .ok (.iconst 2, 1) := by decide +kernel
theorem dL_law_481 : decode cL_law 481 = .ok (.iadd, 1) := by decide +kernel
theorem dL_law_482 : decode cL_law 482 = .ok (.iaload, 1) := by decide +kernel
theorem dL_law_483 : decode cL_law 483 = .ok (.invokevirtual 59, 3) := by decide +kernel
theorem dL_law_486 : decode cL_law 486 = .ok (.if_icmp .eq 317, 3) := by decide +kernel
theorem dL_law_489 : decode cL_law 489 = .ok (.iconst 0, 1) := by decide +kernel
theorem dL_law_490 : decode cL_law 490 = .ok (.ireturn, 1) := by decide +kernel
theorem dL_law_491 : decode cL_law 491 = .ok (.aload_n 1, 1) := by decide +kernel
theorem dL_law_492 : decode cL_law 492 = .ok (.aload_n 0, 1) := by decide +kernel
theorem dL_law_493 : decode cL_law 493 = .ok (.iload_n 3, 1) := by decide +kernel
theorem dL_law_494 : decode cL_law 494 = .ok (.iconst 1, 1) := by decide +kernel
theorem dL_law_495 : decode cL_law 495 = .ok (.iadd, 1) := by decide +kernel
theorem dL_law_496 : decode cL_law 496 = .ok (.iaload, 1) := by decide +kernel
theorem dL_law_497 : decode cL_law 497 = .ok (.invokevirtual 60, 3) := by decide +kernel
theorem dL_law_500 : decode cL_law 500 = .ok (.aload_n 2, 1) := by decide +kernel
theorem dL_law_501 : decode cL_law 501 = .ok (.aload_n 0, 1) := by decide +kernel
theorem dL_law_502 : decode cL_law 502 = .ok (.iload_n 3, 1) := by decide +kernel
theorem dL_law_503 : decode cL_law 503 = .ok (.iconst 1, 1) := by decide +kernel
theorem dL_law_504 : decode cL_law 504 = .ok (.iadd, 1) := by decide +kernel
theorem dL_law_505 : decode cL_law 505 = .ok (.iaload, 1) := by decide +kernel
theorem dL_law_506 : decode cL_law 506 = .ok (.invokevirtual 63, 3) := by decide +kernel
theorem dL_law_509 : decode cL_law 509 = .ok (.if_icmp .eq 294, 3) := by decide +kernel
theorem dL_law_512 : decode cL_law 512 = .ok (.iconst 0, 1) := by decide +kernel
theorem dL_law_513 : decode cL_law 513 = .ok (.ireturn, 1) := by decide +kernel
theorem dL_law_514 : decode cL_law 514 = .ok (.aload_n 1, 1) := by decide +kernel
theorem dL_law_515 : decode cL_law 515 = .ok (.aload_n 0, 1) := by decide +kernel
theorem dL_law_516 : decode cL_law 516 = .ok (.iload_n 3, 1) := by decide +kernel
theorem dL_law_517 : decode cL_law 517 = .ok (.iconst 1, 1) := by decide +kernel
theorem dL_law_518 : decode cL_law 518 = .ok (.iadd, 1) := by decide +kernel
theorem dL_law_519 : decode cL_law 519 = .ok (.iaload, 1) := by decide +kernel
theorem dL_law_520 : decode cL_law 520 = .ok (.invokevirtual 64, 3) := by decide +kernel
theorem dL_law_523 : decode cL_law 523 = .ok (.aload_n 2, 1) := by decide +kernel
theorem dL_law_524 : decode cL_law 524 = .ok (.aload_n 0, 1) := by decide +kernel
theorem dL_law_525 : decode cL_law 525 = .ok (.iload_n 3, 1) := by decide +kernel
theorem dL_law_526 : decode cL_law 526 = .ok (.iconst 1, 1) := by decide +kernel
theorem dL_law_527 : decode cL_law 527 = .ok (.iadd, 1) := by decide +kernel
theorem dL_law_528 : decode cL_law 528 = .ok (.iaload, 1) := by decide +kernel
theorem dL_law_529 : decode cL_law 529 = .ok (.invokevirtual 67, 3) := by decide +kernel
theorem dL_law_532 : decode cL_law 532 = .ok (.if_icmp .eq 271, 3) := by decide +kernel
theorem dL_law_535 : decode cL_law 535 = .ok (.iconst 0, 1) := by decide +kernel
theorem dL_law_536 : decode cL_law 536 = .ok (.ireturn, 1) := by decide +kernel
theorem dL_law_537 : decode cL_law 537 = .ok (.aload_n 1, 1) := by decide +kernel
theorem dL_law_538 : decode cL_law 538 = .ok (.aload_n 0, 1) := by decide +kernel
theorem dL_law_539 : decode cL_law 539 = .ok (.iload_n 3, 1) := by decide +kernel
theorem dL_law_540 : decode cL_law 540 = .ok (.iconst 1, 1) := by decide +kernel
theorem dL_law_541 : decode cL_law 541 = .ok (.iadd, 1) := by decide +kernel
theorem dL_law_542 : decode cL_law 542 = .ok (.iaload, 1) := by decide +kernel
theorem dL_law_543 : decode cL_law 543 = .ok (.invokevirtual 68, 3) := by decide +kernel
theorem dL_law_546 : decode cL_law 546 = .ok (.aload_n 2, 1) := by decide +kernel
theorem dL_law_547 : decode cL_law 547 = .ok (.aload_n 0, 1) := by decide +kernel
theorem dL_law_548 : decode cL_law 548 = .ok (.iload_n 3, 1) := by decide +kernel
theorem dL_law_549 : decode cL_law 549 = .ok (.iconst 1, 1) := by decide +kernel
theorem dL_law_550 : decode cL_law 550 = .ok (.iadd, 1) := by decide +kernel
theorem dL_law_551 : decode cL_law 551 = .ok (.iaload, 1) := by decide +kernel
theorem dL_law_552 : decode cL_law 552 = .ok (.invokevirtual 71, 3) := by decide +kernel
theorem dL_law_555 : decode cL_law 555 = .ok (.if_icmp .eq 248, 3) := by decide +kernel
theorem dL_law_558 : decode cL_law 558 = .ok (.iconst 0, 1) := by decide +kernel
theorem dL_law_559 : decode cL_law 559 = .ok (.ireturn, 1) := by decide +kernel
theorem dL_law_560 : decode cL_law 560 = .ok (.aload_n 1, 1) := by decide +kernel
theorem dL_law_561 : decode cL_law 561 = .ok (.aload_n 0, 1) := by decide +kernel
theorem dL_law_562 : decode cL_law 562 = .ok (.iload_n 3, 1) := by decide +kernel
theorem dL_law_563 : decode cL_law 563 = .ok (.iconst 1, 1) := by decide +kernel
theorem dL_law_564 : decode cL_law 564 = .ok (.iadd, 1) := by decide +kernel
theorem dL_law_565 : decode cL_law 565 = .ok (.iaload, 1) := by decide +kernel
theorem dL_law_566 : decode cL_law 566 = .ok (.invokevirtual 72, 3) := by decide +kernel
theorem dL_law_569 : decode cL_law 569 = .ok (.aload_n 2, 1) := by decide +kernel
theorem dL_law_570 : decode cL_law 570 = .ok (.aload_n 0, 1) := by decide +kernel
theorem dL_law_571 : decode cL_law 571 = .ok (.iload_n 3, 1) := by decide +kernel
theorem dL_law_572 : decode cL_law 572 = .ok (.iconst 1, 1) := by decide +kernel
theorem dL_law_573 : decode cL_law 573 = .ok (.iadd, 1) := by decide +kernel
theorem dL_law_574 : decode cL_law 574 = .ok (.iaload, 1) := by decide +kernel
theorem dL_law_575 : decode cL_law 575 = .ok (.invokevirtual 75, 3) := by decide +kernel
theorem dL_law_578 : decode cL_law 578 = .ok (.if_icmp .eq 225, 3) := by decide +kernel
theorem dL_law_581 : decode cL_law 581 = .ok (.iconst 0, 1) := by decide +kernel
theorem dL_law_582 : decode cL_law 582 = .ok (.ireturn, 1) := by decide +kernel
theorem dL_law_583 : decode cL_law 583 = .ok (.aload_n 1, 1) := by decide +kernel
theorem dL_law_584 : decode cL_law 584 = .ok (.aload_n 0, 1) := by decide +kernel
theorem dL_law_585 : decode cL_law 585 = .ok (.iload_n 3, 1) := by decide +kernel
theorem dL_law_586 : decode cL_law 586 = .ok (.iconst 1, 1) := by decide +kernel
theorem dL_law_587 : decode cL_law 587 = .ok (.iadd, 1) := by decide +kernel
theorem dL_law_588 : decode cL_law 588 = .ok (.iaload, 1) := by decide +kernel
theorem dL_law_589 : decode cL_law 589 = .ok (.aload_n 0, 1) := by decide +kernel
theorem dL_law_590 : decode cL_law 590 = .ok (.iload_n 3, 1) := by decide +kernel
theorem dL_law_591 : decode cL_law 591 = .ok (.iconst 2, 1) := by decide +kernel
theorem dL_law_592 : decode cL_law 592 = .ok (.iadd, 1) := by decide +kernel
theorem dL_law_593 : decode cL_law 593 = .ok (.iaload, 1) := by decide +kernel
theorem dL_law_594 : decode cL_law 594 = .ok (.invokevirtual 76, 3) := by decide +kernel
theorem dL_law_597 : decode cL_law 597 = .ok (.aload_n 2, 1) := by decide +kernel
theorem dL_law_598 : decode cL_law 598 = .ok (.aload_n 0, 1) := by decide +kernel
theorem dL_law_599 : decode cL_law 599 = .ok (.iload_n 3, 1) := by decide +kernel
theorem dL_law_600 : decode cL_law 600 = .ok (.iconst 1, 1) := by decide +kernel
theorem dL_law_601 : decode cL_law 601 = .ok (.iadd, 1) := by decide +kernel
theorem dL_law_602 : decode cL_law 602 = .ok (.iaload, 1) := by decide +kernel
theorem dL_law_603 : decode cL_law 603 = .ok (.aload_n 0, 1) := by decide +kernel
theorem dL_law_604 : decode cL_law 604 = .ok (.iload_n 3, 1) := by decide +kernel
theorem dL_law_605 : decode cL_law 605 = .ok (.iconst 2, 1) := by decide +kernel
theorem dL_law_606 : decode cL_law 606 = .ok (.iadd, 1) := by decide +kernel
theorem dL_law_607 : decode cL_law 607 = .ok (.iaload, 1) := by decide +kernel
theorem dL_law_608 : decode cL_law 608 = .ok (.invokevirtual 79, 3) := by decide +kernel
theorem dL_law_611 : decode cL_law 611 = .ok (.if_icmp .eq 192, 3) := by decide +kernel
theorem dL_law_614 : decode cL_law 614 = .ok (.iconst 0, 1) := by decide +kernel
theorem dL_law_615 : decode cL_law 615 = .ok (.ireturn, 1) := by decide +kernel
theorem dL_law_616 : decode cL_law 616 = .ok (.aload_n 1, 1) := by decide +kernel
theorem dL_law_617 : decode cL_law 617 = .ok (.aload_n 0, 1) := by decide +kernel
theorem dL_law_618 : decode cL_law 618 = .ok (.iload_n 3, 1) := by decide +kernel
theorem dL_law_619 : decode cL_law 619 = .ok (.iconst 1, 1) := by decide +kernel
theorem dL_law_620 : decode cL_law 620 = .ok (.iadd, 1) := by decide +kernel
theorem dL_law_621 : decode cL_law 621 = .ok (.iaload, 1) := by decide +kernel
theorem dL_law_622 : decode cL_law 622 = .ok (.invokevirtual 80, 3) := by decide +kernel
theorem dL_law_625 : decode cL_law 625 = .ok (.aload_n 2, 1) := by decide +kernel
theorem dL_law_626 : decode cL_law 626 = .ok (.aload_n 0, 1) := by decide +kernel
theorem dL_law_627 : decode cL_law 627 = .ok (.iload_n 3, 1) := by decide +kernel
theorem dL_law_628 : decode cL_law 628 = .ok (.iconst 1, 1) := by decide +kernel
theorem dL_law_629 : decode cL_law 629 = .ok (.iadd, 1) := by decide +kernel
theorem dL_law_630 : decode cL_law 630 = .ok (.iaload, 1) := by decide +kernel
theorem dL_law_631 : decode cL_law 631 = .ok (.invokevirtual 83, 3) := by decide +kernel
theorem dL_law_634 : decode cL_law 634 = .ok (.if_icmp .eq 169, 3) := by decide +kernel
theorem dL_law_637 : decode cL_law 637 = .ok (.iconst 0, 1) := by decide +kernel
theorem dL_law_638 : decode cL_law 638 = .ok (.ireturn, 1) := by decide +kernel
theorem dL_law_639 : decode cL_law 639 = .ok (.aload_n 1, 1) := by decide +kernel
theorem dL_law_640 : decode cL_law 640 = .ok (.invokevirtual 84, 3) := by decide +kernel
theorem dL_law_643 : decode cL_law 643 = .ok (.aload_n 2, 1) := by decide +kernel
theorem dL_law_644 : decode cL_law 644 = .ok (.invokevirtual 88, 3) := by decide +kernel
theorem dL_law_647 : decode cL_law 647 = .ok (.if_icmp .eq 156, 3) := by decide +kernel
theorem dL_law_650 : decode cL_law 650 = .ok (.iconst 0, 1) := by decide +kernel
theorem dL_law_651 : decode cL_law 651 = .ok (.ireturn, 1) := by decide +kernel
theorem dL_law_652 : decode cL_law 652 = .ok (.aload_n 1, 1) := by decide +kernel
theorem dL_law_653 : decode cL_law 653 = .ok (.aload_n 0, 1) := by decide +kernel
theorem dL_law_654 : decode cL_law 654 = .ok (.iload_n 3, 1) := by decide +kernel
theorem dL_law_655 : decode cL_law 655 = .ok (.iconst 1, 1) := by decide +kernel
theorem dL_law_656 : decode cL_law 656 = .ok (.iadd, 1) := by decide +kernel
theorem dL_law_657 : decode cL_law 657 = .ok (.iaload, 1) := by decide +kernel
theorem dL_law_658 : decode cL_law 658 = .ok (.i2l, 1) := by decide +kernel
theorem dL_law_659 : decode cL_law 659 = .ok (.bipush 32, 2) := by decide +kernel
theorem dL_law_661 : decode cL_law 661 = .ok (.lshl, 1) := by decide +kernel
theorem dL_law_662 : decode cL_law 662 = .ok (.aload_n 0, 1) := by decide +kernel
theorem dL_law_663 : decode cL_law 663 = .ok (.iload_n 3, 1) := by decide +kernel
theorem dL_law_664 : decode cL_law 664 = .ok (.iconst 2, 1) := by decide +kernel
theorem dL_law_665 : decode cL_law 665 = .ok (.iadd, 1) := by decide +kernel
theorem dL_law_666 : decode cL_law 666 = .ok (.iaload, 1) := by decide +kernel
theorem dL_law_667 : decode cL_law 667 = .ok (.i2l, 1) := by decide +kernel
theorem dL_law_668 : decode cL_law 668 = .ok (.ldc2_w 89, 3) := by decide +kernel
theorem dL_law_671 : decode cL_law 671 = .ok (.land, 1) := by decide +kernel
theorem dL_law_672 : decode cL_law 672 = .ok (.lor, 1) := by decide +kernel
theorem dL_law_673 : decode cL_law 673 = .ok (.invokevirtual 91, 3) := by decide +kernel
theorem dL_law_676 : decode cL_law 676 = .ok (.aload_n 2, 1) := by decide +kernel
theorem dL_law_677 : decode cL_law 677 = .ok (.aload_n 0, 1) := by decide +kernel
theorem dL_law_678 : decode cL_law 678 = .ok (.iload_n 3, 1) := by decide +kernel
theorem dL_law_679 : decode cL_law 679 = .ok (.iconst 1, 1) := by decide +kernel
theorem dL_law_680 : decode cL_law 680 = .ok (.iadd, 1) := by decide +kernel
theorem dL_law_681 : decode cL_law 681 = .ok (.iaload, 1) := by decide +kernel
theorem dL_law_682 : decode cL_law 682 = .ok (.i2l, 1) := by decide +kernel
theorem dL_law_683 : decode cL_law 683 = .ok (.bipush 32, 2) := by decide +kernel
theorem dL_law_685 : decode cL_law 685 = .ok (.lshl, 1) := by decide +kernel
theorem dL_law_686 : decode cL_law 686 = .ok (.aload_n 0, 1) := by decide +kernel
theorem dL_law_687 : decode cL_law 687 = .ok (.iload_n 3, 1) := by decide +kernel
theorem dL_law_688 : decode cL_law 688 = .ok (.iconst 2, 1) := by decide +kernel
theorem dL_law_689 : decode cL_law 689 = .ok (.iadd, 1) := by decide +kernel
theorem dL_law_690 : decode cL_law 690 = .ok (.iaload, 1) := by decide +kernel
theorem dL_law_691 : decode cL_law 691 = .ok (.i2l, 1) := by decide +kernel
theorem dL_law_692 : decode cL_law 692 = .ok (.ldc2_w 89, 3) := by decide +kernel
theorem dL_law_695 : decode cL_law 695 = .ok (.land, 1) := by decide +kernel
theorem dL_law_696 : decode cL_law 696 = .ok (.lor, 1) := by decide +kernel
theorem dL_law_697 : decode cL_law 697 = .ok (.invokevirtual 95, 3) := by decide +kernel
theorem dL_law_700 : decode cL_law 700 = .ok (.if_icmp .eq 103, 3) := by decide +kernel
theorem dL_law_703 : decode cL_law 703 = .ok (.iconst 0, 1) := by decide +kernel
theorem dL_law_704 : decode cL_law 704 = .ok (.ireturn, 1) := by decide +kernel
theorem dL_law_705 : decode cL_law 705 = .ok (.aload_n 1, 1) := by decide +kernel
theorem dL_law_706 : decode cL_law 706 = .ok (.invokevirtual 96, 3) := by decide +kernel
theorem dL_law_709 : decode cL_law 709 = .ok (.aload_n 2, 1) := by decide +kernel
theorem dL_law_710 : decode cL_law 710 = .ok (.invokevirtual 99, 3) := by decide +kernel
theorem dL_law_713 : decode cL_law 713 = .ok (.if_icmp .eq 90, 3) := by decide +kernel
theorem dL_law_716 : decode cL_law 716 = .ok (.iconst 0, 1) := by decide +kernel
theorem dL_law_717 : decode cL_law 717 = .ok (.ireturn, 1) := by decide +kernel
theorem dL_law_718 : decode cL_law 718 = .ok (.aload_n 1, 1) := by decide +kernel
theorem dL_law_719 : decode cL_law 719 = .ok (.invokevirtual 100, 3) := by decide +kernel
theorem dL_law_722 : decode cL_law 722 = .ok (.aload_n 2, 1) := by decide +kernel
theorem dL_law_723 : decode cL_law 723 = .ok (.invokevirtual 103, 3) := by decide +kernel
theorem dL_law_726 : decode cL_law 726 = .ok (.if_icmp .eq 77, 3) := by decide +kernel
theorem dL_law_729 : decode cL_law 729 = .ok (.iconst 0, 1) := by decide +kernel
theorem dL_law_730 : decode cL_law 730 = .ok (.ireturn, 1) := by decide +kernel
theorem dL_law_731 : decode cL_law 731 = .ok (.aload_n 1, 1) := by decide +kernel
theorem dL_law_732 : decode cL_law 732 = .ok (.invokevirtual 104, 3) := by decide +kernel
theorem dL_law_735 : decode cL_law 735 = .ok (.aload_n 2, 1) := by decide +kernel
theorem dL_law_736 : decode cL_law 736 = .ok (.invokevirtual 107, 3) := by decide +kernel
theorem dL_law_739 : decode cL_law 739 = .ok (.if_icmp .eq 64, 3) := by decide +kernel
theorem dL_law_742 : decode cL_law 742 = .ok (.iconst 0, 1) := by decide +kernel
theorem dL_law_743 : decode cL_law 743 = .ok (.ireturn, 1) := by decide +kernel
theorem dL_law_744 : decode cL_law 744 = .ok (.aload_n 1, 1) := by decide +kernel
theorem dL_law_745 : decode cL_law 745 = .ok (.invokevirtual 108, 3) := by decide +kernel
theorem dL_law_748 : decode cL_law 748 = .ok (.aload_n 2, 1) := by decide +kernel
theorem dL_law_749 : decode cL_law 749 = .ok (.invokevirtual 111, 3) := by decide +kernel
theorem dL_law_752 : decode cL_law 752 = .ok (.if_icmp .eq 51, 3) := by decide +kernel
theorem dL_law_755 : decode cL_law 755 = .ok (.iconst 0, 1) := by decide +kernel
theorem dL_law_756 : decode cL_law 756 = .ok (.ireturn, 1) := by decide +kernel
theorem dL_law_757 : decode cL_law 757 = .ok (.aload_n 1, 1) := by decide +kernel
theorem dL_law_758 : decode cL_law 758 = .ok (.aload_n 0, 1) := by decide +kernel
theorem dL_law_759 : decode cL_law 759 = .ok (.iload_n 3, 1) := by decide +kernel
theorem dL_law_760 : decode cL_law 760 = .ok (.iconst 1, 1) := by decide +kernel
theorem dL_law_761 : decode cL_law 761 = .ok (.iadd, 1) := by decide +kernel
theorem dL_law_762 : decode cL_law 762 = .ok (.iaload, 1) := by decide +kernel
theorem dL_law_763 : decode cL_law 763 = .ok (.invokevirtual 112, 3) := by decide +kernel
theorem dL_law_766 : decode cL_law 766 = .ok (.aload_n 2, 1) := by decide +kernel
theorem dL_law_767 : decode cL_law 767 = .ok (.aload_n 0, 1) := by decide +kernel
theorem dL_law_768 : decode cL_law 768 = .ok (.iload_n 3, 1) := by decide +kernel
theorem dL_law_769 : decode cL_law 769 = .ok (.iconst 1, 1) := by decide +kernel
theorem dL_law_770 : decode cL_law 770 = .ok (.iadd, 1) := by decide +kernel
theorem dL_law_771 : decode cL_law 771 = .ok (.iaload, 1) := by decide +kernel
theorem dL_law_772 : decode cL_law 772 = .ok (.invokevirtual 115, 3) := by decide +kernel
theorem dL_law_775 : decode cL_law 775 = .ok (.if_icmp .eq 28, 3) := by decide +kernel
theorem dL_law_778 : decode cL_law 778 = .ok (.iconst 0, 1) := by decide +kernel
theorem dL_law_779 : decode cL_law 779 = .ok (.ireturn, 1) := by decide +kernel
theorem dL_law_780 : decode cL_law 780 = .ok (.aload_n 1, 1) := by decide +kernel
theorem dL_law_781 : decode cL_law 781 = .ok (.aload_n 0, 1) := by decide +kernel
theorem dL_law_782 : decode cL_law 782 = .ok (.iload_n 3, 1) := by decide +kernel
theorem dL_law_783 : decode cL_law 783 = .ok (.iconst 1, 1) := by decide +kernel
theorem dL_law_784 : decode cL_law 784 = .ok (.iadd, 1) := by decide +kernel
theorem dL_law_785 : decode cL_law 785 = .ok (.iaload, 1) := by decide +kernel
theorem dL_law_786 : decode cL_law 786 = .ok (.invokevirtual 116, 3) := by decide +kernel
theorem dL_law_789 : decode cL_law 789 = .ok (.aload_n 2, 1) := by decide +kernel
theorem dL_law_790 : decode cL_law 790 = .ok (.aload_n 0, 1) := by decide +kernel
theorem dL_law_791 : decode cL_law 791 = .ok (.iload_n 3, 1) := by decide +kernel
theorem dL_law_792 : decode cL_law 792 = .ok (.iconst 1, 1) := by decide +kernel
theorem dL_law_793 : decode cL_law 793 = .ok (.iadd, 1) := by decide +kernel
theorem dL_law_794 : decode cL_law 794 = .ok (.iaload, 1) := by decide +kernel
theorem dL_law_795 : decode cL_law 795 = .ok (.invokevirtual 119, 3) := by decide +kernel
theorem dL_law_798 : decode cL_law 798 = .ok (.if_icmp .eq 5, 3) := by decide +kernel
theorem dL_law_801 : decode cL_law 801 = .ok (.iconst 0, 1) := by decide +kernel
theorem dL_law_802 : decode cL_law 802 = .ok (.ireturn, 1) := by decide +kernel
theorem dL_law_803 : decode cL_law 803 = .ok (.iinc 3 4, 3) := by decide +kernel
theorem dL_law_806 : decode cL_law 806 = .ok (.goto (-788), 3) := by decide +kernel
theorem dL_law_809 : decode cL_law 809 = .ok (.iconst 1, 1) := by decide +kernel
theorem dL_law_810 : decode cL_law 810 = .ok (.ireturn, 1) := by decide +kernel
end
section
/-! ===== the world: all cells from a base on, by number (key) and slot; one contract form for all methods ===== -/
abbrev xX : Type := va_G × Heap × (Nat → Nat)
abbrev xV : Type := Nat → Nat → Value
def xB (X : xX) : Nat := X.2.1.size
def x_at (D : va_G) (a : Nat) (k : Nat × Nat) (V : Nat → Value) (H : Heap) : Prop :=
  if k.1 < 8 then t_OB a (D.1 k.1) k.2 (D.2 k.1) H V else H[a]? = some (arrV (D.1 k.1) k.2 V)
theorem x_at.to {D : va_G} {a : Nat} {k : Nat × Nat} {V V' : Nat → Value} {H : Heap} (h : x_at D a k V H) (hv : ∀ j, j < k.2 → V j = V' j) : x_at D a k V' H := by
  unfold x_at at h ⊢
  by_cases hk : k.1 < 8
  · rw [if_pos hk] at h ⊢
    exact h.to hv
  · rw [if_neg hk] at h ⊢
    rw [h]
    unfold arrV
    congr 2
    apply Array.ext
    · simp
    · intro i h1 h2
      simp at h1
      simp [hv i h1]
theorem x_at.kept {D : va_G} {a : Nat} {k : Nat × Nat} {V : Nat → Value} {H H1 : Heap} (h : x_at D a k V H) (hq : H1[a]? = H[a]?) : x_at D a k V H1 := by
  unfold x_at at h ⊢
  by_cases hk : k.1 < 8
  · rw [if_pos hk] at h ⊢
    exact h.kept hq
  · rw [if_neg hk] at h ⊢
    rw [hq]; exact h
def XH (X : xX) (sh : Nat → Nat × Nat) (n : Nat) (V : xV) (H : Heap) (locs : List Loc) : Prop :=
  H.size = xB X + n ∧ (∀ k, k < n → x_at X.1 (xB X + k) (sh k) (V k) H) ∧ (∀ q, q < xB X → H[q]? = X.2.1[q]?) ∧ ∀ x ∈ locs, xB X ≤ x.base
theorem XH.to {X : xX} {sh : Nat → Nat × Nat} {n : Nat} {V V' : xV} {H : Heap} {locs : List Loc} (h : XH X sh n V H locs) (hv : ∀ k, k < n → ∀ j, j < (sh k).2 → V k j = V' k j) : XH X sh n V' H locs :=
  ⟨h.1, fun k hk => (h.2.1 k hk).to (hv k hk), h.2.2⟩
theorem XH.forget {X : xX} {sh : Nat → Nat × Nat} {n : Nat} {V : xV} {H : Heap} {locs : List Loc} (h : XH X sh n V H locs) : XH X sh n V H [] := ⟨h.1, h.2.1, h.2.2.1, fun _ h => by cases h⟩
def xup2 (V : xV) (k j : Nat) (v : Value) : xV := fun k' => if k' = k then (fun j' => if j' = j then v else V k j') else V k'
theorem XH.put {X : xX} {sh : Nat → Nat × Nat} {n : Nat} {V : xV} {H H1 : Heap} {locs : List Loc} (h : XH X sh n V H locs) {key j sl : Nat} {v : Value} (hk : key < n) (z : H1.size = H.size) (oq : ∀ q : Nat, q ≠ xB X + key → H1[q]? = H[q]?)
    (he : x_at X.1 (xB X + key) (sh key) (fun j' => if j' = j then v else V key j') H1) : XH X sh n (xup2 V key j v) H1 (locs ++ [⟨xB X + key, sl⟩]) := by
  refine ⟨by rw [z]; exact h.1, fun k hk' => ?_, fun q hq => ?_, fun x hx => ?_⟩
  · unfold xup2
    by_cases e : k = key
    · subst e
      rw [if_pos rfl]; exact he
    · rw [if_neg e]
      exact (h.2.1 k hk').kept (oq _ (fun q => e (by omega)))
  · rw [oq q (by omega)]; exact h.2.2.1 q hq
  · rcases List.mem_append.mp hx with h1 | h1
    · exact h.2.2.2 x h1
    · rw [List.mem_singleton.mp h1]; exact Nat.le_add_right _ _
/-- the kinds 8..14 are the arrays' -/
def xTys (D : va_G) : List (ClassId × FieldType) := [(D.1 8, .int), (D.1 9, .char), (D.1 10, .boolean), (D.1 11, .object RX4), (D.1 12, .object RX2), (D.1 13, .object RX1), (D.1 14, .object RX5)]
def xst (n : Nat) (f : Nat → Int32) (nm : String) (i : Nat) (X : xX) (U : State) : Prop := va_Z "CoughLamps" nm "[I" (.ref (X.2.2 i)) (fun q => xB X ≤ q) U X.2.1 ∧ va_T .int (X.2.2 i) n (fun j => .int (f j)) (fun q => xB X ≤ q) U X.2.1
def xf0 : Nat → Int32 := fun j => match j with | 0 => 3 | 1 => 14 | 2 => 8 | 3 => 6 | 4 => 2 | _ => 2
def xf1 : Nat → Int32 := fun j => match j with | 0 => 0 | 1 => 1 | 2 => 1 | 3 => 0 | 4 => 1 | _ => 0
def xf2 : Nat → Int32 := fun j => match j with | 0 => 20 | 1 => 60 | 2 => 50 | 3 => 50 | 4 => 10 | _ => 6
def XK (X : xX) (U : State) : Prop := va_K X.1 vwCl (xTys X.1) U ∧ xst 6 xf0 "FIRST_VALUES" 0 X U ∧ xst 6 xf1 "LEAST_VALUES" 1 X U ∧ xst 6 xf2 "MOST_VALUES" 2 X U
theorem xst.moved {n : Nat} {f : Nat → Int32} {nm : String} {i : Nat} {X : xX} {u U : State} (hvm : u.vm.Alike U.vm) (h : xst n f nm i X u) : xst n f nm i X U := ⟨h.1.moved hvm, h.2.moved hvm⟩
theorem XK.moved {X : xX} {u U : State} (hvm : u.vm.Alike U.vm) (h : XK X u) : XK X U := ⟨va_K.moved hvm h.1, h.2.1.moved hvm, h.2.2.1.moved hvm, h.2.2.2.moved hvm⟩
def xQ (X : xX) (sh : Nat → Nat × Nat) (n' : Nat) (V' : xV) (r : Option Value) : Array Value → State → Outcome → State → Prop := fun _ _ o t => o = .returned r ∧ XH X sh n' V' t.heap []
def xP (X : xX) (sh : Nat → Nat × Nat) (n : Nat) (V : xV) (as : List Value) : Array Value → State → Prop := fun v U => v = as.toArray ∧ XK X U ∧ XH X sh n V U.heap []
/-- THE CONTRACT: from the world V of n cells the method y, called with as, answers r and leaves the world V' of n' cells -/
def XC (l : Launch) (y : MethodName) (bytes : ByteArray) (maxL : Nat) (ret : Option FieldType) (fr lo mc ms : Nat) (X : xX) (sh : Nat → Nat × Nat) (as : List Value) (n n' : Nat) (V V' : xV) (r : Option Value) : Prop :=
  Met l y (Cond.code y bytes maxL ret :: xT) { frames := fr, cells := mc, slots := ms, locals := lo } (xP X sh n V as) (xQ X sh n' V' r) mc ms (fun q => xB X ≤ q)
theorem XC.of {l : Launch} {y : MethodName} {bytes : ByteArray} {maxL : Nat} {ret : Option FieldType} {fr lo mc ms : Nat} {X : xX} {sh : Nat → Nat × Nat} {as : List Value} {n n' : Nat} {V V' : xV} {r : Option Value} (own nm : String) (lv : List (Nat × Value)) (hy : plainName y.cls = true) (how : y.cls = own) (hnm : y.name = nm) (hlen : (lg_sl as).length ≤ maxL) (hlv : lv_args 0 as = lv)
    (body : ∀ (p : Program) (e : Env) (s : State) (m : MethodId) (args : Array Value) (below : List Frame) (meth : Method) (c : Code) (ls : Array Slot), p.tables.exec = Jvm.exec → c.code = bytes → meth.sig.returnType = ret → c.maxLocals = maxL → (∀ w ∈ xT, w.before args s = true) → s.vm.findClass own = some m.cls → meth.locks = false → meth.name = nm → XK X s → XH X sh n V s.heap [] → lv_has ls maxL lv →
      W p l e { frames := fr, cells := mc, slots := ms, locals := lo } s m args below meth c s.heap [] 0 0 (MQ below (xQ X sh n' V' r) args s mc ms (fun q => xB X ≤ q)) (F0 m 0 ls [])) : XC l y bytes maxL ret fr lo mc ms X sh as n n' V V' r := by
  refine Met.ofW (cc := bytes) (maxL := maxL) (ret := ret) hy rfl ?_
  intro p e s m args below meth c s₁ B hml hv
  obtain ⟨rfl, hK, hW⟩ := hv
  have hts0 := atoms_spec (ws := Cond.code y bytes maxL ret :: xT) B.pre
  have hown : s.vm.findClass y.cls = some m.cls := findClass_of_methodNamed B.named
  rw [lg_entry_eq]
  exact body p e s m _ below meth c _ B.exec B.bytes B.returns hml (fun w h => hts0 w (List.mem_cons_of_mem _ h)) (how ▸ hown) B.notSynchronized (((name_of_methodNamed B.named B.method).1).trans hnm) hK hW (hlv ▸ lv_entry as hlen)
theorem xP.blind {X : xX} {sh : Nat → Nat × Nat} {n : Nat} {V : xV} {as : List Value} : FrameBlind (xP X sh n V as) := fun a U g mk q => ⟨q.1, XK.moved (u := U) (U := U.calling g mk a) (Vm.Alike.refl U.vm) q.2.1, q.2.2⟩
theorem x_good {w : Cond} (h : w ∈ xT) : w ∈ xT ∧ ((w.onTables && w.keeps) = true ∨ ∃ ty, w = .arrayClass ty) := ⟨h, good_of_word (List.all_eq_true.mp xT_good w h)⟩
theorem x_goodc {w : Cond} (hw : w ∈ xT) : GoodIn xT (w :: xT) := fun v h => by
  rcases List.mem_cons.mp h with rfl | h
  · exact x_good hw
  · exact x_good h
section XROWS
variable {p : Program} {l : Launch} {e : Env} {R : Room} {s : State} {m : MethodId} {args : Array Value} {below : List Frame} {meth : Method} {c : Code} {H : Heap} {locs : List Loc} {cells slots : Nat} {Q : State → Prop}
variable {cc : ByteArray} {pc : Nat} {ls : Array Slot} {rest : List Value} {X : xX} {sh : Nat → Nat × Nat} {n : Nat} {V : xV}
theorem x_get (hx : p.tables.exec = Jvm.exec) (hb : c.code = cc) (hts : ∀ w ∈ xT, w.before args s = true) {own ref C : String} {T : u_T} {N ci index key : Nat} (hin : ∀ w ∈ u_ws C T N, w ∈ xT) (hown : s.vm.findClass own = some m.cls) (hK : XK X s) (hW : XH X sh n V H locs) (hk : key < n) (hsh : sh key = (ci, N)) (hci : ci < 8) (hc : vwCl[ci]? = some (C, T, N)) (k : Nat) (hkN : k < N)
    (hlink : Cond.fieldLink own index ref (T k).2.1 (T k).2.2.1 ∈ xT) (href : (T k).1 = ref) {v : Value} (hv : V key k = v) (hdg : decode cc pc = .ok (.getfield index, 3))
    (kk : W p l e R s m args below meth c H locs cells slots Q (F0 m (pc + 3) ls (v :: rest))) : W p l e R s m args below meth c H locs cells slots Q (F0 m pc ls (.ref (xB X + key) :: rest)) := by
  have h0 := hW.2.1 key hk
  unfold x_at at h0
  rw [hsh, if_pos hci] at h0
  obtain ⟨cell, q1, q2, q3, q4⟩ := h0
  obtain ⟨hS, hfc, kC, hkC, hkind⟩ := hK.1.1 ci _ hc
  obtain ⟨cf, kf, fi, f, hi, hsl⟩ := hS k hkN
  refine W.getf hx hb hown (hts _ hlink) (href ▸ hi) (u_facts hfc hkC (u_lays hts hin hkN) hi).1 q1 (by rw [q3]; exact fun h => by cases h) (v := v) ?_ rfl rfl hdg kk
  rw [hsl, q4 k hkN, hv]
theorem x_apart (hts : ∀ w ∈ xT, w.before args s = true) {C : String} {T : u_T} {N ci : Nat} (hin : ∀ w ∈ u_ws C T N, w ∈ xT) (ty : Nat → FieldType) (hty : ∀ k, k < N → parseFieldDescriptor (T k).2.2.1 = some (ty k)) (hnm : ∀ a, a < N → ∀ b, b < N → a ≠ b → (T a).2.1 ≠ (T b).2.1) (hK : XK X s) (hc : vwCl[ci]? = some (C, T, N)) : ∀ x y, x < N → y < N → x ≠ y → (X.1.2 ci) x ≠ (X.1.2 ci) y :=
  va_apart (own := C) hts hin ty hty hnm hK.1 hc
theorem x_put0 (hx : p.tables.exec = Jvm.exec) (hb : c.code = cc) (hts : ∀ w ∈ xT, w.before args s = true) {own ref C : String} {T : u_T} {N ci index key : Nat} (hin : ∀ w ∈ u_ws C T N, w ∈ xT) (ty0 : Nat → FieldType) (hty : ∀ k, k < N → parseFieldDescriptor (T k).2.2.1 = some (ty0 k)) (hnm : ∀ a, a < N → ∀ b, b < N → a ≠ b → (T a).2.1 ≠ (T b).2.1) (hown : s.vm.findClass own = some m.cls) (hK : XK X s) (hW : XH X sh n V H locs) (hk : key < n) (hsh : sh key = (ci, N)) (hci : ci < 8) (hc : vwCl[ci]? = some (C, T, N)) (k : Nat) (hkN : k < N)
    (hlink : Cond.fieldLink own index ref (T k).2.1 (T k).2.2.1 ∈ xT) (href : (T k).1 = ref) {v : Value} (hS : ∀ (cf fi : Nat) (kf : Class) (fd : Field) (kC : Class), s.vm.findClass C = some (X.1.1 ci) → s.vm.classes[X.1.1 ci]? = some kC → kC.kind = .ordinary → s.fieldFound? (T k).1 (T k).2.1 (T k).2.2.1 = some (cf, kf, fi, fd) → Fd s m args own ref (T k).2.1 (T k).2.2.1 index fd ∧ k2_Sd s fd (X.1.1 ci) v) (hdg : decode cc pc = .ok (.putfield index, 3))
    (kk : ∀ (H1 : Heap) (locs1 : List Loc), XH X sh n (xup2 V key k v) H1 locs1 → W p l e R s m args below meth c H1 locs1 cells slots Q (F0 m (pc + 3) ls rest)) : W p l e R s m args below meth c H locs cells slots Q (F0 m pc ls (v :: .ref (xB X + key) :: rest)) := by
  have hap := x_apart hts hin ty0 hty hnm hK hc
  have h0 := hW.2.1 key hk
  unfold x_at at h0
  rw [hsh, if_pos hci] at h0
  obtain ⟨cell, q1, q2, q3, q4⟩ := h0
  obtain ⟨hSl, hfc, kC, hkC, hkind⟩ := hK.1.1 ci _ hc
  obtain ⟨cf, kf, fi, f, hi, hsl⟩ := hSl k hkN
  obtain ⟨hF, h6⟩ := hS cf fi kf f kC hfc hkC hkind hi
  refine W.putK hx hb (f := f) hF (by rw [q2]; exact h6) q1 q3 (by rw [hsl]; exact k2_hasslot (q4 k hkN)) rfl rfl hdg fun H' e1 e2 e3 => ?_
  rw [hsl] at e1 ⊢
  refine kk H' _ (hW.put hk e2 e3 ?_)
  unfold x_at
  rw [hsh, if_pos hci]
  exact t_OB.to (V := updV (V key) k v) ⟨_, e1, q2, q3, t_set q4 hap hkN v⟩ (fun j _ => rfl)
theorem x_put (hx : p.tables.exec = Jvm.exec) (hb : c.code = cc) (hts : ∀ w ∈ xT, w.before args s = true) {own ref C : String} {T : u_T} {N ci index key : Nat} (hin : ∀ w ∈ u_ws C T N, w ∈ xT) (ty0 : Nat → FieldType) (hty : ∀ k, k < N → parseFieldDescriptor (T k).2.2.1 = some (ty0 k)) (hnm : ∀ a, a < N → ∀ b, b < N → a ≠ b → (T a).2.1 ≠ (T b).2.1) (hown : s.vm.findClass own = some m.cls) (hK : XK X s) (hW : XH X sh n V H locs) (hk : key < n) (hsh : sh key = (ci, N)) (hci : ci < 8) (hc : vwCl[ci]? = some (C, T, N)) (k : Nat) (hkN : k < N)
    (hlink : Cond.fieldLink own index ref (T k).2.1 (T k).2.2.1 ∈ xT) (href : (T k).1 = ref) (hfin : (T k).2.2.2 = false) {v : Value} (hn : narrow (ty0 k) v = v) (hfit : fits (ty0 k) v = true) (hdg : decode cc pc = .ok (.putfield index, 3))
    (kk : ∀ (H1 : Heap) (locs1 : List Loc), XH X sh n (xup2 V key k v) H1 locs1 → W p l e R s m args below meth c H1 locs1 cells slots Q (F0 m (pc + 3) ls rest)) : W p l e R s m args below meth c H locs cells slots Q (F0 m pc ls (v :: .ref (xB X + key) :: rest)) := by
  refine x_put0 hx hb hts hin ty0 hty hnm hown hK hW hk hsh hci hc k hkN hlink href (fun cf fi kf fd kC hfc hkC hkind hi => ?_) hdg kk
  have hlay := hts _ (hin _ (u_in_lay hkN))
  unfold u_lay at hlay
  rw [if_neg (by rw [hfin]; decide)] at hlay
  have hst := (u_facts hfc hkC (u_lays hts hin hkN) hi).1
  exact ⟨⟨hown, hts _ hlink, ⟨_, _, _, href ▸ hi⟩, hst⟩, u_store hfc hkC hkind hlay hi (hty k hkN) hn hfit⟩
theorem x_iald (hx : p.tables.exec = Jvm.exec) (hb : c.code = cc) (hK : XK X s) (hW : XH X sh n V H locs) {key N : Nat} (hk : key < n) (hsh : sh key = (8, N)) {i : Int32} (hin : vp_in i N) {v : Value} (hv : V key i.toNatClampNeg = v) (hdg : decode cc pc = .ok (.iaload, 1))
    (kk : W p l e R s m args below meth c H locs cells slots Q (F0 m (pc + 1) ls (v :: rest))) : W p l e R s m args below meth c H locs cells slots Q (F0 m pc ls (.int i :: .ref (xB X + key) :: rest)) := by
  have h0 := hW.2.1 key hk
  unfold x_at at h0
  rw [hsh, if_neg (by show ¬ (8 : Nat) < 8; omega)] at h0
  have hlt : i.toNatClampNeg < N := Nat.not_le.mp fun q => hin (Or.inr q)
  exact W.iald (v := v) hx hb h0 ((hK.1.2 0 _ rfl).1 N (V key)) (fun q => by cases q) (by show ¬ (i < 0 ∨ (arrV _ _ _).slots.size ≤ _); rw [arrV_size]; exact hin) (by rw [arrV_read _ _ hlt, hv]) rfl rfl hdg kk
theorem x_cald (hx : p.tables.exec = Jvm.exec) (hb : c.code = cc) (hK : XK X s) (hW : XH X sh n V H locs) {key N : Nat} (hk : key < n) (hsh : sh key = (9, N)) {i : Int32} (hin : vp_in i N) {v : Value} (hv : V key i.toNatClampNeg = v) (hdg : decode cc pc = .ok (.caload, 1))
    (kk : W p l e R s m args below meth c H locs cells slots Q (F0 m (pc + 1) ls (v :: rest))) : W p l e R s m args below meth c H locs cells slots Q (F0 m pc ls (.int i :: .ref (xB X + key) :: rest)) := by
  have h0 := hW.2.1 key hk
  unfold x_at at h0
  rw [hsh, if_neg (by show ¬ (9 : Nat) < 8; omega)] at h0
  have hlt : i.toNatClampNeg < N := Nat.not_le.mp fun q => hin (Or.inr q)
  exact W.cald (v := v) hx hb h0 ((hK.1.2 1 _ rfl).1 N (V key)) (fun q => by cases q) (by show ¬ (i < 0 ∨ (arrV _ _ _).slots.size ≤ _); rw [arrV_size]; exact hin) (by rw [arrV_read _ _ hlt, hv]) rfl rfl hdg kk
theorem x_zald (hx : p.tables.exec = Jvm.exec) (hb : c.code = cc) (hK : XK X s) (hW : XH X sh n V H locs) {key N : Nat} (hk : key < n) (hsh : sh key = (10, N)) {i : Int32} (hin : vp_in i N) {v : Value} (hv : V key i.toNatClampNeg = v) (hdg : decode cc pc = .ok (.baload, 1))
    (kk : W p l e R s m args below meth c H locs cells slots Q (F0 m (pc + 1) ls (v :: rest))) : W p l e R s m args below meth c H locs cells slots Q (F0 m pc ls (.int i :: .ref (xB X + key) :: rest)) := by
  have h0 := hW.2.1 key hk
  unfold x_at at h0
  rw [hsh, if_neg (by show ¬ (10 : Nat) < 8; omega)] at h0
  have hlt : i.toNatClampNeg < N := Nat.not_le.mp fun q => hin (Or.inr q)
  exact W.zald (v := v) hx hb h0 ((hK.1.2 2 _ rfl).1 N (V key)) (fun q => by cases q) (by show ¬ (i < 0 ∨ (arrV _ _ _).slots.size ≤ _); rw [arrV_size]; exact hin) (by rw [arrV_read _ _ hlt, hv]) rfl rfl hdg kk
theorem x_aald (hx : p.tables.exec = Jvm.exec) (hb : c.code = cc) (hK : XK X s) (hW : XH X sh n V H locs) {key N kd : Nat} {C : String} (hk : key < n) (hsh : sh key = (kd, N)) (hkd : 8 ≤ kd) (t0 : Nat) (ht : (xTys X.1)[t0]? = some (X.1.1 kd, .object C)) {i : Int32} (hin : vp_in i N) {v : Value} (hv : V key i.toNatClampNeg = v) (hdg : decode cc pc = .ok (.aaload, 1))
    (kk : W p l e R s m args below meth c H locs cells slots Q (F0 m (pc + 1) ls (v :: rest))) : W p l e R s m args below meth c H locs cells slots Q (F0 m pc ls (.int i :: .ref (xB X + key) :: rest)) := by
  have h0 := hW.2.1 key hk
  unfold x_at at h0
  rw [hsh, if_neg (by show ¬ kd < 8; omega)] at h0
  have hlt : i.toNatClampNeg < N := Nat.not_le.mp fun q => hin (Or.inr q)
  exact W.aald (v := v) (ty := .object C) hx hb h0 ((hK.1.2 t0 _ ht).1 N (V key)) rfl (fun q => by cases q) (by show ¬ (i < 0 ∨ (arrV _ _ _).slots.size ≤ _); rw [arrV_size]; exact hin) (by rw [arrV_read _ _ hlt, hv]) rfl rfl hdg kk
theorem x_arr_put (hW : XH X sh n V H locs) {key N kd j : Nat} {v : Value} (hk : key < n) (hsh : sh key = (kd, N)) (hkd : 8 ≤ kd) {H1 : Heap} (e : H1[xB X + key]? = some ((arrV (X.1.1 kd) N (V key)).setSlot j v)) (z : H1.size = H.size) (oq : ∀ q : Nat, q ≠ xB X + key → H1[q]? = H[q]?) {sl : Nat} : XH X sh n (xup2 V key j v) H1 (locs ++ [⟨xB X + key, sl⟩]) := by
  refine hW.put hk z oq ?_
  unfold x_at
  rw [hsh, if_neg (by show ¬ kd < 8; omega), e, arrV_store]
  rfl
theorem x_iast (hx : p.tables.exec = Jvm.exec) (hb : c.code = cc) (hK : XK X s) (hW : XH X sh n V H locs) {key N : Nat} (hk : key < n) (hsh : sh key = (8, N)) {i x : Int32} (hin : vp_in i N) (hdg : decode cc pc = .ok (.iastore, 1))
    (kk : ∀ (H1 : Heap) (locs1 : List Loc), XH X sh n (xup2 V key i.toNatClampNeg (.int x)) H1 locs1 → W p l e R s m args below meth c H1 locs1 cells slots Q (F0 m (pc + 1) ls rest)) : W p l e R s m args below meth c H locs cells slots Q (F0 m pc ls (.int x :: .int i :: .ref (xB X + key) :: rest)) := by
  have h0 := hW.2.1 key hk
  unfold x_at at h0
  rw [hsh, if_neg (by show ¬ (8 : Nat) < 8; omega)] at h0
  exact W.iast hx hb h0 ((hK.1.2 0 _ rfl).1 N (V key)) (fun q => by cases q) (by show ¬ (i < 0 ∨ (arrV _ _ _).slots.size ≤ _); rw [arrV_size]; exact hin) rfl rfl hdg fun H1 e z oq => kk H1 _ (x_arr_put hW hk hsh (by decide) e z oq)
theorem x_zast (hx : p.tables.exec = Jvm.exec) (hb : c.code = cc) (hK : XK X s) (hW : XH X sh n V H locs) {key N : Nat} (hk : key < n) (hsh : sh key = (10, N)) {i x : Int32} (hin : vp_in i N) (hnr : narrow .boolean (.int x) = .int x) (hdg : decode cc pc = .ok (.bastore, 1))
    (kk : ∀ (H1 : Heap) (locs1 : List Loc), XH X sh n (xup2 V key i.toNatClampNeg (.int x)) H1 locs1 → W p l e R s m args below meth c H1 locs1 cells slots Q (F0 m (pc + 1) ls rest)) : W p l e R s m args below meth c H locs cells slots Q (F0 m pc ls (.int x :: .int i :: .ref (xB X + key) :: rest)) := by
  have h0 := hW.2.1 key hk
  unfold x_at at h0
  rw [hsh, if_neg (by show ¬ (10 : Nat) < 8; omega)] at h0
  exact W.zast hx hb h0 ((hK.1.2 2 _ rfl).1 N (V key)) (fun q => by cases q) (by show ¬ (i < 0 ∨ (arrV _ _ _).slots.size ≤ _); rw [arrV_size]; exact hin) rfl rfl hdg fun H1 e z oq => kk H1 _ (x_arr_put hW hk hsh (by decide) (by rw [hnr] at e; exact e) z oq)
theorem x_cast (hx : p.tables.exec = Jvm.exec) (hb : c.code = cc) (hK : XK X s) (hW : XH X sh n V H locs) {key N : Nat} (hk : key < n) (hsh : sh key = (9, N)) {i x : Int32} (hin : vp_in i N) (hnr : narrow .char (.int x) = .int x) (hdg : decode cc pc = .ok (.castore, 1))
    (kk : ∀ (H1 : Heap) (locs1 : List Loc), XH X sh n (xup2 V key i.toNatClampNeg (.int x)) H1 locs1 → W p l e R s m args below meth c H1 locs1 cells slots Q (F0 m (pc + 1) ls rest)) : W p l e R s m args below meth c H locs cells slots Q (F0 m pc ls (.int x :: .int i :: .ref (xB X + key) :: rest)) := by
  have h0 := hW.2.1 key hk
  unfold x_at at h0
  rw [hsh, if_neg (by show ¬ (9 : Nat) < 8; omega)] at h0
  exact W.cast hx hb h0 ((hK.1.2 1 _ rfl).1 N (V key)) (fun q => by cases q) (by show ¬ (i < 0 ∨ (arrV _ _ _).slots.size ≤ _); rw [arrV_size]; exact hin) rfl rfl hdg fun H1 e z oq => kk H1 _ (x_arr_put hW hk hsh (by decide) (by rw [hnr] at e; exact e) z oq)
/-! calls -/
theorem x_after {y : MethodName} {mc ms : Nat} {g : JFrame} {n' : Nat} {V' : xV} {r : Option Value} {a : Array Value} (hr : CallRun p l e R s m args below meth c H locs cells slots mc ms g rest (xQ X sh n' V' r a) (fun q => xB X ≤ q)) (hW : XH X sh n V H locs)
    (kk : ∀ (H1 : Heap) (locs1 : List Loc), XH X sh n' V' H1 locs1 → W p l e R s m args below meth c H1 locs1 (cells + mc) (slots + ms) Q { g with pc := g.pc + 3, stack := r.toList ++ rest }) : W p l e R s m args below meth c H locs cells slots Q g := by
  intro T hT X0
  obtain ⟨v, st₀, t, T', L, h0, X', hL, e1, ⟨hv, hh⟩, st⟩ := hr T hT X0
  cases hv
  obtain ⟨t2, a1, b1⟩ := kk T'.heap (locs ++ L) (by rw [e1]; exact ⟨hh.1, hh.2.1, hh.2.2.1, fun x hx => (List.mem_append.mp hx).elim (hW.2.2.2 x) (hL x)⟩) T' rfl X'
  exact ⟨t2, st t2 a1, b1⟩
theorem x_pre {as : List Value} (hK : XK X s) (hW : XH X sh n V H locs) : PreS s H (xP X sh n V as) as := ⟨xP.blind, fun U hU hw => ⟨rfl, hK.moved hw.alike, by rw [hU]; exact hW.forget⟩⟩
theorem x_recv (hK : XK X s) (hW : XH X sh n V H locs) {b ci N : Nat} {C : String} {T : u_T} (hk : b < n) (hsh : sh b = (ci, N)) (hci : ci < 8) (hc : vwCl[ci]? = some (C, T, N)) : ∃ cellB : Cell, H[xB X + b]? = some cellB ∧ cellB.vm.isStatics = false ∧ s.vm.findClass C = some cellB.cls := by
  have h0 := hW.2.1 b hk
  unfold x_at at h0
  rw [hsh, if_pos hci] at h0
  obtain ⟨cell, q1, q2, q3, -⟩ := h0
  obtain ⟨-, hfc, -⟩ := hK.1.1 ci _ hc
  exact ⟨cell, q1, by rw [q3]; rfl, by rw [q2]; exact hfc⟩
theorem x_callV (hx : p.tables.exec = Jvm.exec) (hb : c.code = cc) {nL : Nat} (hml : c.maxLocals = nL) {own C : String} (hown : s.vm.findClass own = some m.cls) (hts : ∀ w ∈ xT, w.before args s = true) (hK : XK X s) (hW : XH X sh n V H locs) (hls : ls.size = nL)
    {y : MethodName} {bytes : ByteArray} {maxL : Nat} {ret : Option FieldType} {fr lo mc ms : Nat} {b ci N : Nat} {T : u_T} {As : List Value} {n' : Nat} {V' : xV} {r : Option Value} (hM : XC l y bytes maxL ret fr lo mc ms X sh (.ref (xB X + b) :: As) n n' V V' r)
    (hk : b < n) (hsh : sh b = (ci, N)) (hci : ci < 8) (hc : vwCl[ci]? = some (C, T, N)) {idx : Nat} (h1 : Cond.methodLink own idx y ∈ xT) (h2 : Cond.instanceMethod y ∈ xT) (h3 : Cond.selects C y y ∈ xT) (h4 : Cond.initialized C ∈ xT) (h5 : Cond.code y bytes maxL ret ∈ xT)
    (hd : y.cls = C ∧ y.cls ≠ "java/lang/invoke/MethodHandle" ∧ y.cls ≠ "java/lang/invoke/VarHandle" ∧ (parseMethodDescriptor y.desc).map (fun d => d.parameters.length) = some As.length) (hR : fr + 1 ≤ R.frames ∧ 8 + (maxL + 11) + lo ≤ R.locals) {st : List Value} (hst : st = As.reverse ++ .ref (xB X + b) :: rest) (hro : (rest.map fun v => v.category).sum ≤ 8) (hf : cells + mc ≤ R.cells ∧ slots + ms ≤ R.slots) (hdg : decode cc pc = .ok (.invokevirtual idx, 3))
    (kk : ∀ (H1 : Heap) (locs1 : List Loc), XH X sh n' V' H1 locs1 → W p l e R s m args below meth c H1 locs1 (cells + mc) (slots + ms) Q (F0 m (pc + 3) ls (r.toList ++ rest))) : W p l e R s m args below meth c H locs cells slots Q (F0 m pc ls st) := by
  have hG : GoodIn xT (wsV own idx C y (Cond.code y bytes maxL ret :: xT)) := fun w hw => by
    unfold wsV at hw
    rcases List.mem_append.mp hw with h | h
    · simp only [List.mem_cons, List.not_mem_nil, or_false] at h
      rcases h with rfl | rfl | rfl | rfl
      · exact x_good h1
      · exact x_good h2
      · exact x_good h3
      · exact x_good h4
    · exact x_goodc h5 w h
  have hp := x_pre (as := .ref (xB X + b) :: As) hK hW
  exact x_after (y := y) (W.runV (Ts := xT) (nL := nL) (n := As.length) (own := own) ⟨hx, hb, hml, hown, hts⟩ hM (cwV As.length hts hG rfl rfl rfl hd hR) ⟨hp.1, x_recv hK hW hk hsh hci hc, hp.2⟩ rfl rfl hls hst (lv_room hro) hdg hf) hW kk
theorem x_callS (hx : p.tables.exec = Jvm.exec) (hb : c.code = cc) {nL : Nat} (hml : c.maxLocals = nL) {own : String} (hown : s.vm.findClass own = some m.cls) (hts : ∀ w ∈ xT, w.before args s = true) (hK : XK X s) (hW : XH X sh n V H locs) (hls : ls.size = nL)
    {y : MethodName} {bytes : ByteArray} {maxL : Nat} {ret : Option FieldType} {fr lo mc ms : Nat} {As : List Value} {n' : Nat} {V' : xV} {r : Option Value} (hM : XC l y bytes maxL ret fr lo mc ms X sh As n n' V V' r)
    {idx : Nat} (h1 : Cond.methodLink own idx y ∈ xT) (h2 : Cond.static y ∈ xT) (h4 : Cond.initialized y.cls ∈ xT) (h5 : Cond.code y bytes maxL ret ∈ xT)
    (hd : y.cls ≠ "java/lang/invoke/MethodHandle" ∧ y.cls ≠ "java/lang/invoke/VarHandle" ∧ (parseMethodDescriptor y.desc).map (fun d => d.parameters.length) = some As.length) (hR : fr + 1 ≤ R.frames ∧ 8 + (maxL + 11) + lo ≤ R.locals) {st : List Value} (hst : st = As.reverse ++ rest) (hro : (rest.map fun v => v.category).sum ≤ 8) (hf : cells + mc ≤ R.cells ∧ slots + ms ≤ R.slots) (hdg : decode cc pc = .ok (.invokestatic idx, 3))
    (kk : ∀ (H1 : Heap) (locs1 : List Loc), XH X sh n' V' H1 locs1 → W p l e R s m args below meth c H1 locs1 (cells + mc) (slots + ms) Q (F0 m (pc + 3) ls (r.toList ++ rest))) : W p l e R s m args below meth c H locs cells slots Q (F0 m pc ls st) := by
  have hG : GoodIn xT (va_wsS own idx y (Cond.code y bytes maxL ret :: xT)) := fun w hw => by
    unfold va_wsS at hw
    rcases List.mem_append.mp hw with h | h
    · simp only [List.mem_cons, List.not_mem_nil, or_false] at h
      rcases h with rfl | rfl | rfl
      · exact x_good h1
      · exact x_good h2
      · exact x_good h4
    · exact x_goodc h5 w h
  exact x_after (y := y) (W.runS (Ts := xT) (nL := nL) (n := As.length) (own := own) ⟨hx, hb, hml, hown, hts⟩ hM (va_cwS As.length hts hG rfl rfl rfl hd hR) (x_pre hK hW) rfl rfl hls hst (lv_room hro) hdg hf) hW kk
theorem x_callI (hx : p.tables.exec = Jvm.exec) (hb : c.code = cc) {nL : Nat} (hml : c.maxLocals = nL) {own : String} (hown : s.vm.findClass own = some m.cls) (hts : ∀ w ∈ xT, w.before args s = true) (hK : XK X s) (hW : XH X sh n V H locs) (hls : ls.size = nL)
    {y : MethodName} {bytes : ByteArray} {maxL : Nat} {fr lo mc ms : Nat} {b : Nat} {As : List Value} {n' : Nat} {V' : xV} (hM : XC l y bytes maxL none fr lo mc ms X sh (.ref (xB X + b) :: As) n n' V V' none)
    {idx : Nat} (h1 : Cond.methodLink own idx y ∈ xT) (h2 : Cond.instanceMethod y ∈ xT) (h4 : Cond.initialized y.cls ∈ xT) (h5 : Cond.code y bytes maxL none ∈ xT) (hy1 : y.name = "<init>")
    (hd : y.cls ≠ "java/lang/invoke/MethodHandle" ∧ y.cls ≠ "java/lang/invoke/VarHandle" ∧ (parseMethodDescriptor y.desc).map (fun d => d.parameters.length) = some As.length) (hR : fr + 1 ≤ R.frames ∧ 8 + (maxL + 11) + lo ≤ R.locals) {st : List Value} (hst : st = As.reverse ++ .ref (xB X + b) :: rest) (hro : (rest.map fun v => v.category).sum ≤ 8) (hf : cells + mc ≤ R.cells ∧ slots + ms ≤ R.slots) (hdg : decode cc pc = .ok (.invokespecial idx, 3))
    (kk : ∀ (H1 : Heap) (locs1 : List Loc), XH X sh n' V' H1 locs1 → W p l e R s m args below meth c H1 locs1 (cells + mc) (slots + ms) Q (F0 m (pc + 3) ls rest)) : W p l e R s m args below meth c H locs cells slots Q (F0 m pc ls st) := by
  exact x_after (r := none) (y := y) (W.runI (Ts := xT) (nL := nL) (n := As.length) (own := own) ⟨hx, hb, hml, hown, hts⟩ hM (cwI As.length hts (x_goodc h5) rfl rfl rfl (hts _ h4) (hts _ h1) (hts _ h2) hy1 hd hR) (x_pre hK hW) rfl rfl hls hst (lv_room hro) hdg hf) hW kk
/-! ends -/
theorem x_iret {n' : Nat} {V' : xV} {r : Option Value} {v : Int32} {ty : FieldType} (hx : p.tables.exec = Jvm.exec) (hb : c.code = cc) (hr : meth.sig.returnType = some ty) (hlocks : meth.locks = false) (hn : narrow ty (.int v) = .int v) (hW : XH X sh n' V' H locs) (hv : r = some (.int v)) (hdg : decode cc pc = .ok (.ireturn, 1)) :
    W p l e R s m args below meth c H locs cells slots (MQ below (xQ X sh n' V' r) args s cells slots (fun q => xB X ≤ q)) (F0 m pc ls [.int v]) :=
  W.zret hx hb hr hn (fun t ht _ => ⟨by rw [hv], by rw [ht]; exact hW.forget⟩) hW.2.2.2 hdg hlocks
theorem x_vret {n' : Nat} {V' : xV} {r : Option Value} (hx : p.tables.exec = Jvm.exec) (hb : c.code = cc) (hr : meth.sig.returnType = none) (hlocks : meth.locks = false) (hW : XH X sh n' V' H locs) (hv : r = none) (hdg : decode cc pc = .ok (.return_, 1)) :
    W p l e R s m args below meth c H locs cells slots (MQ below (xQ X sh n' V' r) args s cells slots (fun q => xB X ≤ q)) (F0 m pc ls []) :=
  W.vret hx hb hr (fun t ht _ => ⟨by rw [hv], by rw [ht]; exact hW.forget⟩) hW.2.2.2 hdg hlocks
end XROWS
end
section
/-! ===== the layout: which cell is which; all numbers of both sides as one function G region part index slot ===== -/
def xso (r : Nat) : Nat := if r < 2 then 1 + 53 * r else if r < 9 then 111 + 53 * (r - 2) else 485 + 53 * (r - 9)
def xkey (r c i : Nat) : Nat :=
  if r < 11 then xso r + (if c = 0 then 0 else if c = 1 then 1 else if c = 2 then 5 + i else if c = 3 then 21 + i else if c = 4 then 29 + 3 * i else if c = 5 then 30 + 3 * i else if c = 6 then 31 + 3 * i else i)
  else if r = 11 then (if c = 0 then 108 else if c = 1 then 109 else if c = 2 then 482 else if c = 3 then 483 else if c = 4 then 484 else i)
  else 591 + c
def xsdec (r j : Nat) : Nat × Nat × Nat :=
  if j = 0 then (r, 0, 0) else if j = 1 then (r, 1, 0) else if j < 5 then (r, 7, j) else if j < 21 then (r, 2, j - 5) else if j < 29 then (r, 3, j - 21) else if (j - 29) % 3 = 0 then (r, 4, (j - 29) / 3) else if (j - 29) % 3 = 1 then (r, 5, (j - 29) / 3) else (r, 6, (j - 29) / 3)
def xdec (k : Nat) : Nat × Nat × Nat :=
  if k = 0 then (11, 5, 0) else if k < 107 then xsdec ((k - 1) / 53) ((k - 1) % 53) else if k = 107 then (11, 5, 107) else if k = 108 then (11, 0, 0) else if k = 109 then (11, 1, 0) else if k = 110 then (11, 5, 110) else if k < 482 then xsdec (2 + (k - 111) / 53) ((k - 111) % 53)
  else if k = 482 then (11, 2, 0) else if k = 483 then (11, 3, 0) else if k = 484 then (11, 4, 0) else if k < 591 then xsdec (9 + (k - 485) / 53) ((k - 485) % 53) else (12, k - 591, 0)
def xssh (j : Nat) : Nat × Nat := if j = 0 then (4, 8) else if j = 1 then (8, 6) else if j = 2 then (12, 16) else if j = 3 then (13, 8) else if j = 4 then (14, 8) else if j < 21 then (2, 13) else if j < 29 then (1, 2) else if (j - 29) % 3 = 0 then (5, 9) else (8, 6)
def xsh (k : Nat) : Nat × Nat :=
  if k = 0 then (6, 6) else if k < 107 then xssh ((k - 1) % 53) else if k = 107 then (11, 2) else if k = 108 then (10, 2) else if k = 109 then (0, 3) else if k = 110 then (11, 7) else if k < 482 then xssh ((k - 111) % 53)
  else if k = 482 then (3, 6) else if k = 483 then (9, 80) else if k = 484 then (8, 80) else if k < 591 then xssh ((k - 485) % 53)
  else if k = 591 then (7, 18) else if k = 592 then (8, 440) else if k = 593 then (8, 2640) else if k = 594 then (8, 880) else if k = 595 then (10, 2) else if k = 596 then (8, 440) else if k = 597 then (8, 16) else if k = 598 then (8, 16) else if k = 599 then (8, 80) else if k = 600 then (8, 29) else if k = 601 then (8, 30) else (8, 92)
def xsro (k j w : Nat) : Option Nat := if j = 0 then (if w < 4 then some (k + 1 + w) else none) else if j = 1 then none else if j = 2 then some (k + 3 + w) else if j = 3 then some (k + 18 + w) else if j = 4 then some (k + 25 + 3 * w) else if j < 29 then none else if (j - 29) % 3 = 0 then (if w < 2 then some (k + 1 + w) else none) else none
def xro (k w : Nat) : Option Nat :=
  if k = 0 then some (if w = 0 then 1 else if w = 1 then 54 else if w = 2 then 107 else if w = 3 then 108 else if w = 4 then 109 else 482) else if k < 107 then xsro k ((k - 1) % 53) w else if k = 107 then some (485 + 53 * w) else if k = 108 then none else if k = 109 then (if w = 0 then some 110 else none) else if k = 110 then some (111 + 53 * w) else if k < 482 then xsro k ((k - 111) % 53) w
  else if k = 482 then (if w = 0 then some 483 else if w = 1 then some 484 else none) else if k < 485 then none else if k < 591 then xsro k ((k - 485) % 53) w
  else if k = 591 then (if w = 0 then some 592 else if w = 1 then some 593 else if w = 2 then none else if w = 3 then none else if w < 10 then some (590 + w) else if w < 15 then none else some (585 + w)) else none
abbrev xG : Type := Nat → Nat → Nat → Nat → Int32
def xval (B : Nat) (G : xG) (k w : Nat) : Value := match xro k w with
  | some t => .ref (B + t)
  | none => .int (G (xdec k).1 (xdec k).2.1 (xdec k).2.2 w)
theorem xdec_inv : ∀ k, k < 603 → xkey (xdec k).1 (xdec k).2.1 (xdec k).2.2 = k := by decide +kernel
def XG (X : xX) (G : xG) (H : Heap) (locs : List Loc) : Prop := XH X xsh 603 (xval (xB X) G) H locs
def xup4 (G : xG) (r c i w : Nat) (v : Int32) : xG := fun r' c' i' => if r' = r ∧ c' = c ∧ i' = i then va_up (G r c i) w v else G r' c' i'
/-- the key's kind: its shape, its place -/
def xF (r c i kd N : Nat) : Prop := xkey r c i < 603 ∧ xsh (xkey r c i) = (kd, N) ∧ xdec (xkey r c i) = (r, c, i)
theorem xval_int {B : Nat} {G : xG} {r c i kd N w : Nat} (h : xF r c i kd N) (hr : xro (xkey r c i) w = none) : xval B G (xkey r c i) w = .int (G r c i w) := by
  unfold xval
  rw [hr, h.2.2]
theorem xval_ref {B : Nat} {G : xG} {k w t : Nat} (hr : xro k w = some t) : xval B G k w = .ref (B + t) := by
  unfold xval
  rw [hr]
theorem XG.put {X : xX} {G : xG} {H : Heap} {locs : List Loc} {r c i kd N w : Nat} {v : Int32} (hF : xF r c i kd N) (hr : xro (xkey r c i) w = none) (h : XH X xsh 603 (xup2 (xval (xB X) G) (xkey r c i) w (.int v)) H locs) : XG X (xup4 G r c i w v) H locs := by
  refine h.to (fun k hk j hj => ?_)
  unfold xup2
  by_cases e : k = xkey r c i
  · subst e
    rw [if_pos rfl]
    by_cases e2 : j = w
    · subst e2
      rw [if_pos rfl, xval_int hF hr]
      simp [xup4, va_up]
    · rw [if_neg e2]
      unfold xval
      cases hq : xro (xkey r c i) j with
      | some t => rfl
      | none =>
        simp only [hF.2.2]
        simp [xup4, va_up, e2]
  · rw [if_neg e]
    unfold xval
    cases hq : xro k j with
    | some t => rfl
    | none =>
      simp only []
      have hne : ¬ ((xdec k).1 = r ∧ (xdec k).2.1 = c ∧ (xdec k).2.2 = i) := by
        rintro ⟨h1, h2, h3⟩
        apply e
        rw [← h1, ← h2, ← h3]
        exact (xdec_inv k hk).symm
      simp only [xup4, if_neg hne]
theorem XG.to {X : xX} {G G' : xG} {H : Heap} {locs : List Loc} (h : XG X G H locs) (hg : ∀ k, k < 603 → ∀ j, j < (xsh k).2 → xro k j = none → G (xdec k).1 (xdec k).2.1 (xdec k).2.2 j = G' (xdec k).1 (xdec k).2.1 (xdec k).2.2 j) : XG X G' H locs := by
  refine XH.to h (fun k hk j hj => ?_)
  unfold xval
  cases hq : xro k j with
  | some t => rfl
  | none => simp only [hg k hk j hj hq]
theorem XG.cong {X : xX} {G G' : xG} {H : Heap} {locs : List Loc} (h : XG X G H locs) (hg : G = G') : XG X G' H locs := hg ▸ h
/-! the kinds of keys -/
theorem xF_street : ∀ r, r < 11 → xkey r 0 0 < 603 ∧ xsh (xkey r 0 0) = (4, 8) ∧ xdec (xkey r 0 0) = (r, 0, 0) := by decide +kernel
theorem xF_sett : ∀ r, r < 11 → xkey r 1 0 < 603 ∧ xsh (xkey r 1 0) = (8, 6) ∧ xdec (xkey r 1 0) = (r, 1, 0) := by decide +kernel
theorem xF_lamp : ∀ r, r < 11 → ∀ i, i < 16 → xkey r 2 i < 603 ∧ xsh (xkey r 2 i) = (2, 13) ∧ xdec (xkey r 2 i) = (r, 2, i) := by decide +kernel
theorem xF_house : ∀ r, r < 11 → ∀ i, i < 8 → xkey r 3 i < 603 ∧ xsh (xkey r 3 i) = (1, 2) ∧ xdec (xkey r 3 i) = (r, 3, i) := by decide +kernel
theorem xF_walker : ∀ r, r < 11 → ∀ i, i < 8 → xkey r 4 i < 603 ∧ xsh (xkey r 4 i) = (5, 9) ∧ xdec (xkey r 4 i) = (r, 4, i) := by decide +kernel
theorem xF_gsteps : ∀ r, r < 11 → ∀ i, i < 8 → xkey r 5 i < 603 ∧ xsh (xkey r 5 i) = (8, 6) ∧ xdec (xkey r 5 i) = (r, 5, i) := by decide +kernel
theorem xF_gpauses : ∀ r, r < 11 → ∀ i, i < 8 → xkey r 6 i < 603 ∧ xsh (xkey r 6 i) = (8, 6) ∧ xdec (xkey r 6 i) = (r, 6, i) := by decide +kernel
theorem xF_lamps : ∀ r, r < 11 → xkey r 7 2 < 603 ∧ xsh (xkey r 7 2) = (12, 16) := by decide +kernel
theorem xF_houses : ∀ r, r < 11 → xkey r 7 3 < 603 ∧ xsh (xkey r 7 3) = (13, 8) := by decide +kernel
theorem xF_walkers : ∀ r, r < 11 → xkey r 7 4 < 603 ∧ xsh (xkey r 7 4) = (14, 8) := by decide +kernel
theorem xr_street : ∀ r, r < 11 → xro (xkey r 0 0) 0 = some (xkey r 1 0) ∧ xro (xkey r 0 0) 1 = some (xkey r 7 2) ∧ xro (xkey r 0 0) 2 = some (xkey r 7 3) ∧ xro (xkey r 0 0) 3 = some (xkey r 7 4) ∧ xro (xkey r 0 0) 4 = none ∧ xro (xkey r 0 0) 5 = none ∧ xro (xkey r 0 0) 6 = none ∧ xro (xkey r 0 0) 7 = none := by decide +kernel
theorem xr_sett : ∀ r, r < 11 → ∀ w, w < 6 → xro (xkey r 1 0) w = none := by decide +kernel
theorem xr_lamp : ∀ r, r < 11 → ∀ i, i < 16 → ∀ w, w < 13 → xro (xkey r 2 i) w = none := by decide +kernel
theorem xr_house : ∀ r, r < 11 → ∀ i, i < 8 → ∀ w, w < 2 → xro (xkey r 3 i) w = none := by decide +kernel
theorem xr_walker : ∀ r, r < 11 → ∀ i, i < 8 → xro (xkey r 4 i) 0 = some (xkey r 5 i) ∧ xro (xkey r 4 i) 1 = some (xkey r 6 i) ∧ ∀ w, w < 9 → 2 ≤ w → xro (xkey r 4 i) w = none := by decide +kernel
theorem xr_gsteps : ∀ r, r < 11 → ∀ i, i < 8 → ∀ w, w < 6 → xro (xkey r 5 i) w = none := by decide +kernel
theorem xr_gpauses : ∀ r, r < 11 → ∀ i, i < 8 → ∀ w, w < 6 → xro (xkey r 6 i) w = none := by decide +kernel
theorem xr_lamps : ∀ r, r < 11 → ∀ i, i < 16 → xro (xkey r 7 2) i = some (xkey r 2 i) := by decide +kernel
theorem xr_houses : ∀ r, r < 11 → ∀ i, i < 8 → xro (xkey r 7 3) i = some (xkey r 3 i) := by decide +kernel
theorem xr_walkers : ∀ r, r < 11 → ∀ i, i < 8 → xro (xkey r 7 4) i = some (xkey r 4 i) := by decide +kernel
theorem xF_misc : ∀ c, c < 5 → xkey 11 c 0 < 603 ∧ xdec (xkey 11 c 0) = (11, c, 0) := by decide +kernel
theorem xF_model : ∀ c, c < 12 → xkey 12 c 0 < 603 ∧ xdec (xkey 12 c 0) = (12, c, 0) := by decide +kernel
theorem xr_model : ∀ c, c < 12 → 1 ≤ c → ∀ w, xro (xkey 12 c 0) w = none := by
  intro c hc h1 w
  have : xkey 12 c 0 = 591 + c := by simp [xkey]
  rw [this]
  unfold xro
  simp only [show ¬ (591 + c = 0) by omega, show ¬ (591 + c < 107) by omega, show ¬ (591 + c = 107) by omega, show ¬ (591 + c = 108) by omega, show ¬ (591 + c = 109) by omega, show ¬ (591 + c = 110) by omega, show ¬ (591 + c < 482) by omega, show ¬ (591 + c = 482) by omega, show ¬ (591 + c < 485) by omega, show ¬ (591 + c < 591) by omega, show ¬ (591 + c = 591) by omega, if_false]
end
section
/-! ===== rows over a region's state ===== -/
abbrev xS : Type := Nat → Nat → Nat → Int32
def xup3 (σ : xS) (c i w : Nat) (v : Int32) : xS := fun c' i' => if c' = c ∧ i' = i then va_up (σ c i) w v else σ c' i'
def XR (X : xX) (G : xG) (r : Nat) (σ : xS) (H : Heap) (locs : List Loc) : Prop := XG X (va_up G r σ) H locs
theorem XR.self {X : xX} {G : xG} {r : Nat} {H : Heap} {locs : List Loc} (h : XG X G H locs) : XR X G r (G r) H locs := by
  have : va_up G r (G r) = G := by
    funext k
    by_cases e : k = r
    · subst e; simp [va_up]
    · simp [va_up, e]
  unfold XR
  rw [this]; exact h
theorem xup43 {G : xG} {r : Nat} {σ : xS} {c i w : Nat} {v : Int32} : xup4 (va_up G r σ) r c i w v = va_up G r (xup3 σ c i w v) := by
  funext r' c' i'
  by_cases e : r' = r
  · subst e
    by_cases e2 : c' = c ∧ i' = i
    · simp [xup4, va_up, xup3, e2]
    · have e3 : ¬ (r' = r' ∧ c' = c ∧ i' = i) := fun h => e2 h.2
      simp [xup4, va_up, xup3, e2]
  · simp [xup4, va_up, e]
theorem XR.up3 {X : xX} {G : xG} {r : Nat} {σ σ' : xS} {c i w : Nat} {v : Int32} {H : Heap} {locs : List Loc} (h : XG X (xup4 (va_up G r σ) r c i w v) H locs) (hσ : xup3 σ c i w v = σ') : XR X G r σ' H locs := by
  rw [xup43, hσ] at h
  exact h
theorem va_up_at {α : Type} {G : Nat → α} {r : Nat} {σ : α} : va_up G r σ r = σ := by simp [va_up]
/-- a street: header, settings, lamps, houses, walkers, steps and pauses of their goals -/
def xSt (f s : Nat → Int32) (L H W P Q : Nat → Nat → Int32) : xS := fun c => match c with
  | 0 => fun i => if i = 0 then f else fun _ => 0
  | 1 => fun i => if i = 0 then s else fun _ => 0
  | 2 => L
  | 3 => H
  | 4 => W
  | 5 => P
  | 6 => Q
  | _ => fun _ _ => 0
/-- the class's other cells: saved, history, pad, its signs, its numbers -/
def xMi (a b c d e : Nat → Int32) : xS := fun k => match k with
  | 0 => fun i => if i = 0 then a else fun _ => 0
  | 1 => fun i => if i = 0 then b else fun _ => 0
  | 2 => fun i => if i = 0 then c else fun _ => 0
  | 3 => fun i => if i = 0 then d else fun _ => 0
  | 4 => fun i => if i = 0 then e else fun _ => 0
  | _ => fun _ _ => 0
/-- the model's cells: fields, at, past, slots, isSaved, aside, ranks, were, pad, sort, begins, numbers -/
def xMo (f a b c d e g h p q t u : Nat → Int32) : xS := fun k => match k with
  | 0 => fun i => if i = 0 then f else fun _ => 0
  | 1 => fun i => if i = 0 then a else fun _ => 0
  | 2 => fun i => if i = 0 then b else fun _ => 0
  | 3 => fun i => if i = 0 then c else fun _ => 0
  | 4 => fun i => if i = 0 then d else fun _ => 0
  | 5 => fun i => if i = 0 then e else fun _ => 0
  | 6 => fun i => if i = 0 then g else fun _ => 0
  | 7 => fun i => if i = 0 then h else fun _ => 0
  | 8 => fun i => if i = 0 then p else fun _ => 0
  | 9 => fun i => if i = 0 then q else fun _ => 0
  | 10 => fun i => if i = 0 then t else fun _ => 0
  | 11 => fun i => if i = 0 then u else fun _ => 0
  | _ => fun _ _ => 0
theorem xup_lit {σ σ' : xS} {c i w : Nat} {v : Int32} (h1 : σ' c i = va_up (σ c i) w v) (h2 : ∀ i', i' ≠ i → σ' c i' = σ c i') (h3 : ∀ c', c' ≠ c → σ' c' = σ c') : xup3 σ c i w v = σ' := by
  funext c' i'
  unfold xup3
  by_cases e : c' = c
  · subst e
    by_cases e2 : i' = i
    · subst e2
      rw [if_pos ⟨rfl, rfl⟩, h1]
    · rw [if_neg (fun q => e2 q.2), h2 i' e2]
  · rw [if_neg (fun q => e q.1), h3 c' e]
section XLITS
variable {f s : Nat → Int32} {L H W P Q : Nat → Nat → Int32} {i w : Nat} {v : Int32} {ℓ : Nat → Int32}
theorem xSt0 : xup3 (xSt f s L H W P Q) 0 0 w v = xSt (va_up f w v) s L H W P Q := xup_lit rfl (fun i' h => by simp [xSt, h]) (fun c' h => by unfold xSt; split <;> first | rfl | exact absurd rfl h)
theorem xSt1 : xup3 (xSt f s L H W P Q) 1 0 w v = xSt f (va_up s w v) L H W P Q := xup_lit rfl (fun i' h => by simp [xSt, h]) (fun c' h => by unfold xSt; split <;> first | rfl | exact absurd rfl h)
theorem xSt2 : xup3 (xSt f s L H W P Q) 2 i w v = xSt f s (va_up L i (va_up (L i) w v)) H W P Q := xup_lit (by simp [xSt, va_up]) (fun i' h => by simp [xSt, va_up, h]) (fun c' h => by unfold xSt; split <;> first | rfl | exact absurd rfl h)
theorem xSt3 : xup3 (xSt f s L H W P Q) 3 i w v = xSt f s L (va_up H i (va_up (H i) w v)) W P Q := xup_lit (by simp [xSt, va_up]) (fun i' h => by simp [xSt, va_up, h]) (fun c' h => by unfold xSt; split <;> first | rfl | exact absurd rfl h)
theorem xSt4 : xup3 (xSt f s L H W P Q) 4 i w v = xSt f s L H (va_up W i (va_up (W i) w v)) P Q := xup_lit (by simp [xSt, va_up]) (fun i' h => by simp [xSt, va_up, h]) (fun c' h => by unfold xSt; split <;> first | rfl | exact absurd rfl h)
theorem xSt5 : xup3 (xSt f s L H W P Q) 5 i w v = xSt f s L H W (va_up P i (va_up (P i) w v)) Q := xup_lit (by simp [xSt, va_up]) (fun i' h => by simp [xSt, va_up, h]) (fun c' h => by unfold xSt; split <;> first | rfl | exact absurd rfl h)
theorem xSt6 : xup3 (xSt f s L H W P Q) 6 i w v = xSt f s L H W P (va_up Q i (va_up (Q i) w v)) := xup_lit (by simp [xSt, va_up]) (fun i' h => by simp [xSt, va_up, h]) (fun c' h => by unfold xSt; split <;> first | rfl | exact absurd rfl h)
theorem xuu {α : Type} {F : Nat → α} {i : Nat} {a b : α} : va_up (va_up F i a) i b = va_up F i b := by
  funext k
  by_cases h : k = i <;> simp [va_up, h]
theorem xus {α : Type} {F : Nat → α} {i : Nat} : va_up F i (F i) = F := by
  funext k
  by_cases h : k = i
  · subst h; simp [va_up]
  · simp [va_up, h]
theorem xSt2f : xup3 (xSt f s (va_up L i ℓ) H W P Q) 2 i w v = xSt f s (va_up L i (va_up ℓ w v)) H W P Q := by rw [xSt2, xuu, va_up_at]
theorem xSt3f : xup3 (xSt f s L (va_up H i ℓ) W P Q) 3 i w v = xSt f s L (va_up H i (va_up ℓ w v)) W P Q := by rw [xSt3, xuu, va_up_at]
theorem xSt4f : xup3 (xSt f s L H (va_up W i ℓ) P Q) 4 i w v = xSt f s L H (va_up W i (va_up ℓ w v)) P Q := by rw [xSt4, xuu, va_up_at]
theorem xSt5f : xup3 (xSt f s L H W (va_up P i ℓ) Q) 5 i w v = xSt f s L H W (va_up P i (va_up ℓ w v)) Q := by rw [xSt5, xuu, va_up_at]
theorem xSt6f : xup3 (xSt f s L H W P (va_up Q i ℓ)) 6 i w v = xSt f s L H W P (va_up Q i (va_up ℓ w v)) := by rw [xSt6, xuu, va_up_at]
end XLITS
section XLITM
variable {a b c d e f g h p q t u : Nat → Int32} {w : Nat} {v : Int32}
theorem xMi0 : xup3 (xMi a b c d e) 0 0 w v = xMi (va_up a w v) b c d e := xup_lit rfl (fun i' h => by simp [xMi, h]) (fun c' h => by unfold xMi; split <;> first | rfl | exact absurd rfl h)
theorem xMi1 : xup3 (xMi a b c d e) 1 0 w v = xMi a (va_up b w v) c d e := xup_lit rfl (fun i' h => by simp [xMi, h]) (fun c' h => by unfold xMi; split <;> first | rfl | exact absurd rfl h)
theorem xMi2 : xup3 (xMi a b c d e) 2 0 w v = xMi a b (va_up c w v) d e := xup_lit rfl (fun i' h => by simp [xMi, h]) (fun c' h => by unfold xMi; split <;> first | rfl | exact absurd rfl h)
theorem xMi3 : xup3 (xMi a b c d e) 3 0 w v = xMi a b c (va_up d w v) e := xup_lit rfl (fun i' h => by simp [xMi, h]) (fun c' h => by unfold xMi; split <;> first | rfl | exact absurd rfl h)
theorem xMi4 : xup3 (xMi a b c d e) 4 0 w v = xMi a b c d (va_up e w v) := xup_lit rfl (fun i' h => by simp [xMi, h]) (fun c' h => by unfold xMi; split <;> first | rfl | exact absurd rfl h)
theorem xMo0 : xup3 (xMo f a b c d e g h p q t u) 0 0 w v = xMo (va_up f w v) a b c d e g h p q t u := xup_lit rfl (fun i' h => by simp [xMo, h]) (fun c' h => by unfold xMo; split <;> first | rfl | exact absurd rfl h)
theorem xMo1 : xup3 (xMo f a b c d e g h p q t u) 1 0 w v = xMo f (va_up a w v) b c d e g h p q t u := xup_lit rfl (fun i' h => by simp [xMo, h]) (fun c' h => by unfold xMo; split <;> first | rfl | exact absurd rfl h)
theorem xMo2 : xup3 (xMo f a b c d e g h p q t u) 2 0 w v = xMo f a (va_up b w v) c d e g h p q t u := xup_lit rfl (fun i' h => by simp [xMo, h]) (fun c' h => by unfold xMo; split <;> first | rfl | exact absurd rfl h)
theorem xMo3 : xup3 (xMo f a b c d e g h p q t u) 3 0 w v = xMo f a b (va_up c w v) d e g h p q t u := xup_lit rfl (fun i' h => by simp [xMo, h]) (fun c' h => by unfold xMo; split <;> first | rfl | exact absurd rfl h)
theorem xMo4 : xup3 (xMo f a b c d e g h p q t u) 4 0 w v = xMo f a b c (va_up d w v) e g h p q t u := xup_lit rfl (fun i' h => by simp [xMo, h]) (fun c' h => by unfold xMo; split <;> first | rfl | exact absurd rfl h)
theorem xMo5 : xup3 (xMo f a b c d e g h p q t u) 5 0 w v = xMo f a b c d (va_up e w v) g h p q t u := xup_lit rfl (fun i' h => by simp [xMo, h]) (fun c' h => by unfold xMo; split <;> first | rfl | exact absurd rfl h)
theorem xMo6 : xup3 (xMo f a b c d e g h p q t u) 6 0 w v = xMo f a b c d e (va_up g w v) h p q t u := xup_lit rfl (fun i' h => by simp [xMo, h]) (fun c' h => by unfold xMo; split <;> first | rfl | exact absurd rfl h)
theorem xMo7 : xup3 (xMo f a b c d e g h p q t u) 7 0 w v = xMo f a b c d e g (va_up h w v) p q t u := xup_lit rfl (fun i' h => by simp [xMo, h]) (fun c' h => by unfold xMo; split <;> first | rfl | exact absurd rfl h)
theorem xMo8 : xup3 (xMo f a b c d e g h p q t u) 8 0 w v = xMo f a b c d e g h (va_up p w v) q t u := xup_lit rfl (fun i' h => by simp [xMo, h]) (fun c' h => by unfold xMo; split <;> first | rfl | exact absurd rfl h)
theorem xMo9 : xup3 (xMo f a b c d e g h p q t u) 9 0 w v = xMo f a b c d e g h p (va_up q w v) t u := xup_lit rfl (fun i' h => by simp [xMo, h]) (fun c' h => by unfold xMo; split <;> first | rfl | exact absurd rfl h)
theorem xMo10 : xup3 (xMo f a b c d e g h p q t u) 10 0 w v = xMo f a b c d e g h p q (va_up t w v) u := xup_lit rfl (fun i' h => by simp [xMo, h]) (fun c' h => by unfold xMo; split <;> first | rfl | exact absurd rfl h)
theorem xMo11 : xup3 (xMo f a b c d e g h p q t u) 11 0 w v = xMo f a b c d e g h p q t (va_up u w v) := xup_lit rfl (fun i' h => by simp [xMo, h]) (fun c' h => by unfold xMo; split <;> first | rfl | exact absurd rfl h)
end XLITM
section XROWR
variable {p : Program} {l : Launch} {e : Env} {R : Room} {s : State} {m : MethodId} {args : Array Value} {below : List Frame} {meth : Method} {c : Code} {H : Heap} {locs : List Loc} {cells slots : Nat} {Q : State → Prop}
variable {cc : ByteArray} {pc : Nat} {ls : Array Slot} {rest : List Value} {X : xX} {G : xG} {own : String} {r k0 i : Nat} {σ σ' : xS}
theorem r_get (hx : p.tables.exec = Jvm.exec) (hb : c.code = cc) (hts : ∀ w ∈ xT, w.before args s = true) (hown : s.vm.findClass own = some m.cls) (hK : XK X s) (hW : XR X G r σ H locs) {ref C : String} {T : u_T} {N ci index : Nat} (hF : xF r k0 i ci N) (hin : ∀ w ∈ u_ws C T N, w ∈ xT) (hc : vwCl[ci]? = some (C, T, N)) (hci : ci < 8) (k : Nat) (hkN : k < N) (hr : xro (xkey r k0 i) k = none)
    (hlink : Cond.fieldLink own index ref (T k).2.1 (T k).2.2.1 ∈ xT) (href : (T k).1 = ref) {x : Int32} (hv : σ k0 i k = x) (hdg : decode cc pc = .ok (.getfield index, 3))
    (kk : W p l e R s m args below meth c H locs cells slots Q (F0 m (pc + 3) ls (.int x :: rest))) : W p l e R s m args below meth c H locs cells slots Q (F0 m pc ls (.ref (xB X + xkey r k0 i) :: rest)) :=
  x_get hx hb hts hin hown hK hW hF.1 hF.2.1 hci hc k hkN hlink href (by rw [xval_int hF hr, va_up_at, hv]) hdg kk
/-- a field that refers to a cell -/
theorem r_getr (hx : p.tables.exec = Jvm.exec) (hb : c.code = cc) (hts : ∀ w ∈ xT, w.before args s = true) (hown : s.vm.findClass own = some m.cls) (hK : XK X s) (hW : XG X G H locs) {ref C : String} {T : u_T} {N ci index key t : Nat} (hk : key < 603) (hsh : xsh key = (ci, N)) (hin : ∀ w ∈ u_ws C T N, w ∈ xT) (hc : vwCl[ci]? = some (C, T, N)) (hci : ci < 8) (k : Nat) (hkN : k < N) (hr : xro key k = some t)
    (hlink : Cond.fieldLink own index ref (T k).2.1 (T k).2.2.1 ∈ xT) (href : (T k).1 = ref) (hdg : decode cc pc = .ok (.getfield index, 3))
    (kk : W p l e R s m args below meth c H locs cells slots Q (F0 m (pc + 3) ls (.ref (xB X + t) :: rest))) : W p l e R s m args below meth c H locs cells slots Q (F0 m pc ls (.ref (xB X + key) :: rest)) :=
  x_get hx hb hts hin hown hK hW hk hsh hci hc k hkN hlink href (xval_ref hr) hdg kk
theorem r_put (hx : p.tables.exec = Jvm.exec) (hb : c.code = cc) (hts : ∀ w ∈ xT, w.before args s = true) (hown : s.vm.findClass own = some m.cls) (hK : XK X s) (hW : XR X G r σ H locs) {ref C : String} {T : u_T} {N ci index : Nat} (hF : xF r k0 i ci N) (hin : ∀ w ∈ u_ws C T N, w ∈ xT) (ty0 : Nat → FieldType) (hty : ∀ k, k < N → parseFieldDescriptor (T k).2.2.1 = some (ty0 k)) (hnm : ∀ a, a < N → ∀ b, b < N → a ≠ b → (T a).2.1 ≠ (T b).2.1) (hc : vwCl[ci]? = some (C, T, N)) (hci : ci < 8) (k : Nat) (hkN : k < N) (hr : xro (xkey r k0 i) k = none)
    (hlink : Cond.fieldLink own index ref (T k).2.1 (T k).2.2.1 ∈ xT) (href : (T k).1 = ref) (hfin : (T k).2.2.2 = false) {x : Int32} (hn : narrow (ty0 k) (.int x) = .int x) (hfit : fits (ty0 k) (.int x) = true) (hσ : xup3 σ k0 i k x = σ') (hdg : decode cc pc = .ok (.putfield index, 3))
    (kk : ∀ (H : Heap) (locs : List Loc), XR X G r σ' H locs → W p l e R s m args below meth c H locs cells slots Q (F0 m (pc + 3) ls rest)) : W p l e R s m args below meth c H locs cells slots Q (F0 m pc ls (.int x :: .ref (xB X + xkey r k0 i) :: rest)) :=
  x_put hx hb hts hin ty0 hty hnm hown hK hW hF.1 hF.2.1 hci hc k hkN hlink href hfin hn hfit hdg (fun H1 locs1 hW1 => kk H1 locs1 (XR.up3 (XG.put hF hr hW1) hσ))
theorem r_iald (hx : p.tables.exec = Jvm.exec) (hb : c.code = cc) (hK : XK X s) (hW : XR X G r σ H locs) {N : Nat} (hF : xF r k0 i 8 N) {z : Int32} (j : Nat) (hj : j < N) (hN : N < 2 ^ 31) (hz : z = nI j) (hr : xro (xkey r k0 i) j = none) {x : Int32} (hv : σ k0 i j = x) (hdg : decode cc pc = .ok (.iaload, 1))
    (kk : W p l e R s m args below meth c H locs cells slots Q (F0 m (pc + 1) ls (.int x :: rest))) : W p l e R s m args below meth c H locs cells slots Q (F0 m pc ls (.int z :: .ref (xB X + xkey r k0 i) :: rest)) := by
  subst hz
  exact x_iald hx hb hK hW hF.1 hF.2.1 (vp_in_nI hj hN) (by rw [nI_clamp (by omega), xval_int hF hr, va_up_at, hv]) hdg kk
theorem r_cald (hx : p.tables.exec = Jvm.exec) (hb : c.code = cc) (hK : XK X s) (hW : XR X G r σ H locs) {N : Nat} (hF : xF r k0 i 9 N) {z : Int32} (j : Nat) (hj : j < N) (hN : N < 2 ^ 31) (hz : z = nI j) (hr : xro (xkey r k0 i) j = none) {x : Int32} (hv : σ k0 i j = x) (hdg : decode cc pc = .ok (.caload, 1))
    (kk : W p l e R s m args below meth c H locs cells slots Q (F0 m (pc + 1) ls (.int x :: rest))) : W p l e R s m args below meth c H locs cells slots Q (F0 m pc ls (.int z :: .ref (xB X + xkey r k0 i) :: rest)) := by
  subst hz
  exact x_cald hx hb hK hW hF.1 hF.2.1 (vp_in_nI hj hN) (by rw [nI_clamp (by omega), xval_int hF hr, va_up_at, hv]) hdg kk
theorem r_zald (hx : p.tables.exec = Jvm.exec) (hb : c.code = cc) (hK : XK X s) (hW : XR X G r σ H locs) {N : Nat} (hF : xF r k0 i 10 N) {z : Int32} (j : Nat) (hj : j < N) (hN : N < 2 ^ 31) (hz : z = nI j) (hr : xro (xkey r k0 i) j = none) {x : Int32} (hv : σ k0 i j = x) (hdg : decode cc pc = .ok (.baload, 1))
    (kk : W p l e R s m args below meth c H locs cells slots Q (F0 m (pc + 1) ls (.int x :: rest))) : W p l e R s m args below meth c H locs cells slots Q (F0 m pc ls (.int z :: .ref (xB X + xkey r k0 i) :: rest)) := by
  subst hz
  exact x_zald hx hb hK hW hF.1 hF.2.1 (vp_in_nI hj hN) (by rw [nI_clamp (by omega), xval_int hF hr, va_up_at, hv]) hdg kk
theorem r_aald (hx : p.tables.exec = Jvm.exec) (hb : c.code = cc) (hK : XK X s) (hW : XG X G H locs) {N kd key t : Nat} {C : String} (hk : key < 603) (hsh : xsh key = (kd, N)) (hkd : 8 ≤ kd) (t0 : Nat) (ht : (xTys X.1)[t0]? = some (X.1.1 kd, .object C)) {z : Int32} (j : Nat) (hj : j < N) (hN : N < 2 ^ 31) (hz : z = nI j) (hr : xro key j = some t) (hdg : decode cc pc = .ok (.aaload, 1))
    (kk : W p l e R s m args below meth c H locs cells slots Q (F0 m (pc + 1) ls (.ref (xB X + t) :: rest))) : W p l e R s m args below meth c H locs cells slots Q (F0 m pc ls (.int z :: .ref (xB X + key) :: rest)) := by
  subst hz
  exact x_aald hx hb hK hW hk hsh hkd t0 ht (vp_in_nI hj hN) (by rw [nI_clamp (by omega), xval_ref hr]) hdg kk
theorem r_iast (hx : p.tables.exec = Jvm.exec) (hb : c.code = cc) (hK : XK X s) (hW : XR X G r σ H locs) {N : Nat} (hF : xF r k0 i 8 N) {z x : Int32} (j : Nat) (hj : j < N) (hN : N < 2 ^ 31) (hz : z = nI j) (hr : xro (xkey r k0 i) j = none) (hσ : xup3 σ k0 i j x = σ') (hdg : decode cc pc = .ok (.iastore, 1))
    (kk : ∀ (H : Heap) (locs : List Loc), XR X G r σ' H locs → W p l e R s m args below meth c H locs cells slots Q (F0 m (pc + 1) ls rest)) : W p l e R s m args below meth c H locs cells slots Q (F0 m pc ls (.int x :: .int z :: .ref (xB X + xkey r k0 i) :: rest)) := by
  subst hz
  refine x_iast hx hb hK hW hF.1 hF.2.1 (vp_in_nI hj hN) hdg (fun H1 locs1 hW1 => ?_)
  rw [nI_clamp (by omega)] at hW1
  exact kk H1 locs1 (XR.up3 (XG.put hF hr hW1) hσ)
theorem r_zast (hx : p.tables.exec = Jvm.exec) (hb : c.code = cc) (hK : XK X s) (hW : XR X G r σ H locs) {N : Nat} (hF : xF r k0 i 10 N) {z x : Int32} (j : Nat) (hj : j < N) (hN : N < 2 ^ 31) (hz : z = nI j) (hr : xro (xkey r k0 i) j = none) (hnr : narrow .boolean (.int x) = .int x) (hσ : xup3 σ k0 i j x = σ') (hdg : decode cc pc = .ok (.bastore, 1))
    (kk : ∀ (H : Heap) (locs : List Loc), XR X G r σ' H locs → W p l e R s m args below meth c H locs cells slots Q (F0 m (pc + 1) ls rest)) : W p l e R s m args below meth c H locs cells slots Q (F0 m pc ls (.int x :: .int z :: .ref (xB X + xkey r k0 i) :: rest)) := by
  subst hz
  refine x_zast hx hb hK hW hF.1 hF.2.1 (vp_in_nI hj hN) hnr hdg (fun H1 locs1 hW1 => ?_)
  rw [nI_clamp (by omega)] at hW1
  exact kk H1 locs1 (XR.up3 (XG.put hF hr hW1) hσ)
theorem r_cast (hx : p.tables.exec = Jvm.exec) (hb : c.code = cc) (hK : XK X s) (hW : XR X G r σ H locs) {N : Nat} (hF : xF r k0 i 9 N) {z x : Int32} (j : Nat) (hj : j < N) (hN : N < 2 ^ 31) (hz : z = nI j) (hr : xro (xkey r k0 i) j = none) (hnr : narrow .char (.int x) = .int x) (hσ : xup3 σ k0 i j x = σ') (hdg : decode cc pc = .ok (.castore, 1))
    (kk : ∀ (H : Heap) (locs : List Loc), XR X G r σ' H locs → W p l e R s m args below meth c H locs cells slots Q (F0 m (pc + 1) ls rest)) : W p l e R s m args below meth c H locs cells slots Q (F0 m pc ls (.int x :: .int z :: .ref (xB X + xkey r k0 i) :: rest)) := by
  subst hz
  refine x_cast hx hb hK hW hF.1 hF.2.1 (vp_in_nI hj hN) hnr hdg (fun H1 locs1 hW1 => ?_)
  rw [nI_clamp (by omega)] at hW1
  exact kk H1 locs1 (XR.up3 (XG.put hF hr hW1) hσ)
end XROWR
end
section
/-! ===== small words of the walks ===== -/
def xabs (x : Int32) : Int32 := if 0 ≤ x then x else 0 - x
def xmax (x y : Int32) : Int32 := if x < y then y else x
def xmin (x y : Int32) : Int32 := if y < x then y else x
theorem xrd {α : Type} {F : Nat → Nat → α} {i k : Nat} {ρ : Nat → α} {x : α} (h : ρ k = x) : va_up F i ρ i k = x := by simp [va_up, h]
theorem xF_mo0 : xF 12 0 0 7 18 := by unfold xF; decide +kernel
theorem xF_mo1 : xF 12 1 0 8 440 := by unfold xF; decide +kernel
theorem xF_mo2 : xF 12 2 0 8 2640 := by unfold xF; decide +kernel
theorem xF_mo3 : xF 12 3 0 8 880 := by unfold xF; decide +kernel
theorem xF_mo4 : xF 12 4 0 10 2 := by unfold xF; decide +kernel
theorem xF_mo5 : xF 12 5 0 8 440 := by unfold xF; decide +kernel
theorem xF_mo6 : xF 12 6 0 8 16 := by unfold xF; decide +kernel
theorem xF_mo7 : xF 12 7 0 8 16 := by unfold xF; decide +kernel
theorem xF_mo8 : xF 12 8 0 8 80 := by unfold xF; decide +kernel
theorem xF_mo9 : xF 12 9 0 8 29 := by unfold xF; decide +kernel
theorem xF_mo10 : xF 12 10 0 8 30 := by unfold xF; decide +kernel
theorem xF_mo11 : xF 12 11 0 8 92 := by unfold xF; decide +kernel
theorem xF_mi0 : xF 11 0 0 10 2 := by unfold xF; decide +kernel
theorem xF_mi1 : xF 11 1 0 0 3 := by unfold xF; decide +kernel
theorem xF_mi2 : xF 11 2 0 3 6 := by unfold xF; decide +kernel
theorem xF_mi3 : xF 11 3 0 9 80 := by unfold xF; decide +kernel
theorem xF_mi4 : xF 11 4 0 8 80 := by unfold xF; decide +kernel
theorem xr_mi0 (w : Nat) : xro (xkey 11 0 0) w = none := rfl
theorem xr_mi3 (w : Nat) : xro (xkey 11 3 0) w = none := rfl
theorem xr_mi4 (w : Nat) : xro (xkey 11 4 0) w = none := rfl
section XMISC
variable {p : Program} {l : Launch} {e : Env} {R : Room} {s : State} {m : MethodId} {args : Array Value} {below : List Frame} {meth : Method} {c : Code} {H : Heap} {locs : List Loc} {cells slots : Nat} {Q : State → Prop}
variable {cc : ByteArray} {pc : Nat} {ls : Array Slot} {rest : List Value}
theorem lv_eqi {x y : Int32} (h : x = y) (k : W p l e R s m args below meth c H locs cells slots Q (F0 m pc ls (.int y :: rest))) : W p l e R s m args below meth c H locs cells slots Q (F0 m pc ls (.int x :: rest)) := h ▸ k
end XMISC
section XMISC2
variable {p : Program} {l : Launch} {e : Env} {R : Room} {s : State} {m : MethodId} {args : Array Value} {below : List Frame} {meth : Method} {c : Code} {H : Heap} {locs : List Loc} {cells slots : Nat} {Q : State → Prop}
variable {cc : ByteArray} {pc : Nat} {ls : Array Slot} {rest : List Value} {X : xX} {G : xG} {own : String} {r r0 k0 i : Nat} {σ : xS}
theorem r_geto (hx : p.tables.exec = Jvm.exec) (hb : c.code = cc) (hts : ∀ w ∈ xT, w.before args s = true) (hown : s.vm.findClass own = some m.cls) (hK : XK X s) (hne : r0 ≠ r) (hW : XR X G r σ H locs) {ref C : String} {T : u_T} {N ci index : Nat} (hF : xF r0 k0 i ci N) (hin : ∀ w ∈ u_ws C T N, w ∈ xT) (hc : vwCl[ci]? = some (C, T, N)) (hci : ci < 8) (k : Nat) (hkN : k < N) (hr : xro (xkey r0 k0 i) k = none)
    (hlink : Cond.fieldLink own index ref (T k).2.1 (T k).2.2.1 ∈ xT) (href : (T k).1 = ref) {x : Int32} (hv : G r0 k0 i k = x) (hdg : decode cc pc = .ok (.getfield index, 3))
    (kk : W p l e R s m args below meth c H locs cells slots Q (F0 m (pc + 3) ls (.int x :: rest))) : W p l e R s m args below meth c H locs cells slots Q (F0 m pc ls (.ref (xB X + xkey r0 k0 i) :: rest)) :=
  x_get hx hb hts hin hown hK hW hF.1 hF.2.1 hci hc k hkN hlink href (by rw [xval_int hF hr, va_up_ne G σ hne, hv]) hdg kk
end XMISC2
end
section
/-! ===== System.arraycopy between int arrays of the world; switches ===== -/
theorem x_nt {x k : Int32} {z : Int} (h : ¬ x = k) (hz : k.toInt = z) : ¬ x.toInt = z := fun q => h (Int32.toInt_inj.mp (q.trans hz.symm))
theorem x_nt2 {x k : Int32} {z : Int} (h : ¬ x = k) (hz : k.toInt = z) : ¬ z = x.toInt := fun q => x_nt h hz q.symm
theorem x_tabout {x : Int32} {lo hi : Int} (h : ∀ z : Int, lo ≤ z → z ≤ hi → ¬ x.toInt = z) : x.toInt < lo ∨ hi < x.toInt := by
  by_cases h1 : x.toInt < lo
  · exact Or.inl h1
  · by_cases h2 : hi < x.toInt
    · exact Or.inr h2
    · exact absurd rfl (h x.toInt (by omega) (by omega))
section XCOPY
variable {p : Program} {l : Launch} {e : Env} {R : Room} {s : State} {m : MethodId} {args : Array Value} {below : List Frame} {meth : Method} {c : Code} {H : Heap} {locs : List Loc} {cells slots : Nat} {Q : State → Prop}
variable {pc : Nat} {ls : Array Slot} {rest : List Value} {X : xX} {sh : Nat → Nat × Nat} {n : Nat} {V : xV}
theorem x_copy0 {cc : ByteArray} (hexec : p.tables.exec = Jvm.exec) (hb : c.code = cc) (hml : c.maxLocals = ls.size) {own : String} {index : Nat} (hown : s.vm.findClass own = some m.cls) (hlink : (Cond.methodLink own index arraycopyName).before args s = true) (hnat : (Cond.native arraycopyName).before args s = true) (hstat : (Cond.static arraycopyName).before args s = true) (hini : (Cond.initialized "java/lang/System").before args s = true)
    (hK : XK X s) (hW : XH X sh n V H locs) {a0 : Addr} {c0 : Cell} {k1 n1 : Nat} {f g : Nat → Int32} (h0 : H[a0]? = some c0) (h0i : s.isArrayOf c0 .int) (h0k : c0.vm ≠ .unknown) {n0 : Nat} (h0s : c0.slots.size = n0) (h0v : ∀ j, j < n0 → c0.slots[j]? = some (.int (f j))) (hk1 : k1 < n) (hs1 : sh k1 = (8, n1)) (hg : ∀ j, j < n1 → V k1 j = .int (g j))
    {sp dp nn : Int32} {a b d : Nat} (ha : sp = nI a) (hbb : dp = nI b) (hd : nn = nI d) (hbig : n0 < 2 ^ 31 ∧ n1 < 2 ^ 31) (h4 : a + d ≤ n0) (h5 : b + d ≤ n1)
    (hframes : 1 ≤ R.frames) (hlocals : (rest.map fun v => v.category).sum + (nativeFrameWords "java/lang/System" "arraycopy" 5 + 11) ≤ R.locals) (hdg : decode cc pc = .ok (.invokestatic index, 3))
    (kk : ∀ (H1 : Heap) (locs1 : List Loc), XH X sh n (fun k j => if k = k1 then .int (va_cpy f g a b d j) else V k j) H1 locs1 → W p l e R s m args below meth c H1 locs1 cells slots Q (F0 m (pc + 3) ls rest)) : W p l e R s m args below meth c H locs cells slots Q (F0 m pc ls (.int nn :: .int dp :: .ref (xB X + k1) :: .int sp :: .ref a0 :: rest)) := by
  subst ha; subst hbb; subst hd
  have nn : ∀ z : Nat, z < 2 ^ 31 → (nI z).toInt = (z : Int) := fun z hz => nI_toInt hz
  intro T hT X0
  have e1 := hW.2.1 k1 hk1
  unfold x_at at e1
  rw [hs1, if_neg (by show ¬ (8 : Nat) < 8; omega)] at e1
  have hc1 : H[xB X + k1]? = some (arrV (X.1.1 8) n1 (fun j => .int (g j))) := by
    rw [e1]
    unfold arrV
    congr 2
    apply Array.ext
    · simp
    · intro i h1 h2
      simp at h1
      simp [hg i h1]
  obtain ⟨h0o, k0, hk0, cm0, hkk0⟩ := h0i
  obtain ⟨-, kk1, hkk1, cm1, hkk11⟩ := (hK.1.2 0 _ rfl).1 n1 (fun j => .int (g j))
  have hprim : refKind .int = false := rfl
  obtain ⟨vm', X', step⟩ := X0.arraycopy hexec hown hlink hnat hstat hini (src := a0) (dst := xB X + k1) (cs := c0) (cd := arrV (X.1.1 8) n1 (fun j => .int (g j))) (srcPos := nI a) (destPos := nI b) (n := nI d) (by rw [hT]; exact h0) (by rw [hT]; exact hc1)
    h0o (fun _ h => by cases h) h0k (fun h => by cases h) hk0 hkk1 hkk0 hkk11 (by simp [hprim]) (nI_pos (by omega)) (nI_pos (by omega)) (nI_pos (by omega))
    (by rw [nn a (by omega), nn d (by omega)]; show ¬ _ > (c0.slots.size : Int); rw [h0s]; omega)
    (by rw [nn b (by omega), nn d (by omega)]; show ¬ _ > ((arrV (X.1.1 8) n1 (fun j => .int (g j))).slots.size : Int); rw [arrV_size]; omega)
    (fun vm₁ _ i hi => by
      rw [nI_clamp (by omega)] at hi ⊢
      have e : c0.slots.getD (a + i) .null = .int (f (a + i)) := by
        rw [Array.getD_eq_getD_getElem?, h0v _ (by omega)]
        rfl
      refine ⟨?_, ?_⟩
      · rw [e]
        rfl
      · rw [e]
        exact trivial)
    (g := F0 m pc ls (.int (nI d) :: .int (nI b) :: .ref (xB X + k1) :: .int (nI a) :: .ref a0 :: rest)) rfl (by rw [hml]) (rest := rest) rfl (by rw [hb]; exact hdg) hframes (by show 2 * 0 + _ + _ ≤ _; omega)
  have hst : c0.stretch a d = (arrV (X.1.1 8) n0 (fun j => .int (f j))).stretch a d := by
    unfold Cell.stretch
    apply List.map_congr_left
    intro i hi
    have hi' := List.mem_range.mp hi
    rw [Array.getD_eq_getD_getElem?, Array.getD_eq_getD_getElem?, h0v _ (by omega), arrV_read _ _ (by omega)]
  have e2 : copied c0 (arrV (X.1.1 8) n1 (fun j => .int (g j))) (nI a) (nI b) (nI d) = arrV (X.1.1 8) n1 (fun j => .int (va_cpy f g a b d j)) := by
    have := va_copied (fun z => Value.int z) (X.1.1 8) (X.1.1 8) (n0 := n0) (n1 := n1) (sp := a) (dp := b) (n := d) f g h4
    rw [← this, ← hst]
    unfold copied
    rw [nI_clamp (by omega), nI_clamp (by omega), nI_clamp (by omega)]
  rw [e2] at X' step
  have hl : xB X + k1 < H.size := (Array.getElem?_eq_some_iff.mp hc1).1
  have hheap : ((T.setVm vm').setCell (xB X + k1) (arrV (X.1.1 8) n1 (fun j => .int (va_cpy f g a b d j)))).heap = H.setIfInBounds (xB X + k1) (arrV (X.1.1 8) n1 (fun j => .int (va_cpy f g a b d j))) := by rw [← hT]; rfl
  have oq : ∀ q : Nat, q ≠ xB X + k1 → (H.setIfInBounds (xB X + k1) (arrV (X.1.1 8) n1 (fun j => .int (va_cpy f g a b d j))))[q]? = H[q]? := fun q hq => by simp [Array.getElem?_setIfInBounds, Ne.symm hq]
  obtain ⟨t, a1, b1⟩ := kk (H.setIfInBounds (xB X + k1) (arrV (X.1.1 8) n1 (fun j => .int (va_cpy f g a b d j)))) _ ⟨by simp; exact hW.1, fun k hk => by
      by_cases ek : k = k1
      · subst ek
        unfold x_at
        rw [hs1, if_neg (by show ¬ (8 : Nat) < 8; omega)]
        simp [Array.getElem?_setIfInBounds, hl]
      · have := (hW.2.1 k hk).kept (oq (xB X + k) (fun q => ek (by omega)))
        simpa [ek] using this, fun q hq => by rw [oq q (by omega)]; exact hW.2.2.1 q hq, fun q hq => by
      rcases List.mem_append.mp hq with h | h
      · exact hW.2.2.2 q h
      · obtain ⟨z, -, hz⟩ := List.mem_map.mp h
        rw [← hz]
        exact Nat.le_add_right _ _⟩ _ hheap X'
  exact ⟨t, step t a1, b1⟩
theorem r_copy {cc : ByteArray} (hexec : p.tables.exec = Jvm.exec) (hb : c.code = cc) (hml : c.maxLocals = ls.size) {own : String} {index : Nat} (hown : s.vm.findClass own = some m.cls) (hts : ∀ w ∈ xT, w.before args s = true) (hlink : Cond.methodLink own index arraycopyName ∈ xT) (hnat : Cond.native arraycopyName ∈ xT) (hstat : Cond.static arraycopyName ∈ xT) (hini : Cond.initialized "java/lang/System" ∈ xT)
    (hK : XK X s) {G : xG} (hW : XG X G H locs) {r0 c0 i0 r1 c1 i1 n0 n1 : Nat} (hF0 : xF r0 c0 i0 8 n0) (hF1 : xF r1 c1 i1 8 n1) (hr0 : ∀ w, w < n0 → xro (xkey r0 c0 i0) w = none) (hr1 : ∀ w, w < n1 → xro (xkey r1 c1 i1) w = none) {sp dp nn : Int32} (a b d : Nat) (ha : sp = nI a) (hbb : dp = nI b) (hd : nn = nI d) (hbig : n0 < 2 ^ 31 ∧ n1 < 2 ^ 31) (h4 : a + d ≤ n0) (h5 : b + d ≤ n1)
    (hframes : 1 ≤ R.frames) (hlocals : (rest.map fun v => v.category).sum + (nativeFrameWords "java/lang/System" "arraycopy" 5 + 11) ≤ R.locals) (hdg : decode cc pc = .ok (.invokestatic index, 3))
    (kk : ∀ (H1 : Heap) (locs1 : List Loc), XG X (fun r c i => if r = r1 ∧ c = c1 ∧ i = i1 then va_cpy (G r0 c0 i0) (G r1 c1 i1) a b d else G r c i) H1 locs1 → W p l e R s m args below meth c H1 locs1 cells slots Q (F0 m (pc + 3) ls rest)) : W p l e R s m args below meth c H locs cells slots Q (F0 m pc ls (.int nn :: .int dp :: .ref (xB X + xkey r1 c1 i1) :: .int sp :: .ref (xB X + xkey r0 c0 i0) :: rest)) := by
  have e0 := hW.2.1 _ hF0.1
  unfold x_at at e0
  rw [hF0.2.1, if_neg (by show ¬ (8 : Nat) < 8; omega)] at e0
  refine x_copy0 hexec hb hml hown (hts _ hlink) (hts _ hnat) (hts _ hstat) (hts _ hini) hK hW e0 ((hK.1.2 0 _ rfl).1 n0 _) (fun h => by cases h) (arrV_size _ _ _) (f := G r0 c0 i0) (fun j hj => by rw [arrV_read _ _ hj, xval_int hF0 (hr0 j hj)]) hF1.1 hF1.2.1 (g := G r1 c1 i1) (fun j hj => xval_int hF1 (hr1 j hj)) ha hbb hd hbig h4 h5 hframes hlocals hdg (fun H1 locs1 hW1 => kk H1 locs1 (hW1.to (fun k hk j hj => ?_)))
  by_cases ek : k = xkey r1 c1 i1
  · subst ek
    rw [if_pos rfl]
    have hj' : j < n1 := by rw [hF1.2.1] at hj; exact hj
    rw [xval_int hF1 (hr1 j hj'), if_pos ⟨rfl, rfl, rfl⟩]
  · rw [if_neg ek]
    unfold xval
    cases hq : xro k j with
    | some t => rfl
    | none =>
      have hne : ¬ ((xdec k).1 = r1 ∧ (xdec k).2.1 = c1 ∧ (xdec k).2.2 = i1) := by
        rintro ⟨h1, h2, h3⟩
        apply ek
        rw [← h1, ← h2, ← h3]
        exact (xdec_inv k hk).symm
      simp only [if_neg hne]
end XCOPY
/-! a row of a region is laid anew -/
def xrow (σ : xS) (c i : Nat) (ρ : Nat → Int32) : xS := fun c' i' => if c' = c ∧ i' = i then ρ else σ c' i'
theorem xcpS {G : xG} {r : Nat} {σ : xS} {c0 i0 c1 i1 a b d : Nat} : (fun r' c' i' => if r' = r ∧ c' = c1 ∧ i' = i1 then va_cpy (va_up G r σ r c0 i0) (va_up G r σ r c1 i1) a b d else va_up G r σ r' c' i') = va_up G r (xrow σ c1 i1 (va_cpy (σ c0 i0) (σ c1 i1) a b d)) := by
  funext r' c' i'
  by_cases e : r' = r
  · subst e
    by_cases e2 : c' = c1 ∧ i' = i1
    · simp [va_up, xrow, e2]
    · have : ¬ (r' = r' ∧ c' = c1 ∧ i' = i1) := fun h => e2 h.2
      simp [va_up, xrow, e2]
  · simp [va_up, e]
theorem xcpO {G : xG} {r r0 : Nat} {σ : xS} {c0 i0 c1 i1 a b d : Nat} (hne : r0 ≠ r) : (fun r' c' i' => if r' = r ∧ c' = c1 ∧ i' = i1 then va_cpy (va_up G r σ r0 c0 i0) (va_up G r σ r c1 i1) a b d else va_up G r σ r' c' i') = va_up G r (xrow σ c1 i1 (va_cpy (G r0 c0 i0) (σ c1 i1) a b d)) := by
  funext r' c' i'
  by_cases e : r' = r
  · subst e
    by_cases e2 : c' = c1 ∧ i' = i1
    · simp [va_up, xrow, e2, hne]
    · have : ¬ (r' = r' ∧ c' = c1 ∧ i' = i1) := fun h => e2 h.2
      simp [va_up, xrow, e2]
  · simp [va_up, e]
theorem xrow_lit {σ σ' : xS} {c i : Nat} {ρ : Nat → Int32} (h1 : σ' c i = ρ) (h2 : ∀ i', i' ≠ i → σ' c i' = σ c i') (h3 : ∀ c', c' ≠ c → σ' c' = σ c') : xrow σ c i ρ = σ' := by
  funext c' i'
  unfold xrow
  by_cases e : c' = c
  · subst e
    by_cases e2 : i' = i
    · subst e2
      rw [if_pos ⟨rfl, rfl⟩, h1]
    · rw [if_neg (fun q => e2 q.2), h2 i' e2]
  · rw [if_neg (fun q => e q.1), h3 c' e]
section XROWL
variable {f s : Nat → Int32} {L O Y P Q : Nat → Nat → Int32} {i : Nat} {ρ ℓ : Nat → Int32}
theorem xrow1 : xrow (xSt f s L O Y P Q) 1 0 ρ = xSt f ρ L O Y P Q := xrow_lit rfl (fun i' h => by simp [xSt, h]) (fun c' h => by unfold xSt; split <;> first | rfl | exact absurd rfl h)
theorem xrow5 : xrow (xSt f s L O Y (va_up P i ℓ) Q) 5 i ρ = xSt f s L O Y (va_up P i ρ) Q := xrow_lit (by simp [xSt, va_up]) (fun i' h => by simp [xSt, va_up, h]) (fun c' h => by unfold xSt; split <;> first | rfl | exact absurd rfl h)
theorem xrow6 : xrow (xSt f s L O Y P (va_up Q i ℓ)) 6 i ρ = xSt f s L O Y P (va_up Q i ρ) := xrow_lit (by simp [xSt, va_up]) (fun i' h => by simp [xSt, va_up, h]) (fun c' h => by unfold xSt; split <;> first | rfl | exact absurd rfl h)
theorem xat1 : xSt f s L O Y P Q 1 0 = s := rfl
theorem xat5 : xSt f s L O Y (va_up P i ℓ) Q 5 i = ℓ := va_up_at
theorem xat6 : xSt f s L O Y P (va_up Q i ℓ) 6 i = ℓ := va_up_at
end XROWL
end
section
/-! ===== what a lamp's methods do to its row ===== -/
def Fdist (ℓ : Nat → Int32) (x : Int32) : Int32 := xabs (ℓ 0 - x)
def Flights (ℓ : Nat → Int32) (x : Int32) : Int32 := if ℓ 2 = 0 then 0 else if Fdist ℓ x ≤ (if ℓ 2 = 2 then ℓ 1 else ℓ 1 / 2) then 1 else 0
def Fdisturbs (ℓ : Nat → Int32) (x : Int32) : Int32 := if ℓ 2 = 2 then (if Fdist ℓ x ≤ ℓ 1 / 3 then 1 else 0) else 0
def Fforget (ℓ : Nat → Int32) : Nat → Int32 := va_up (va_up ℓ 11 0) 12 0
def Fwake (aw : Int32) (ℓ : Nat → Int32) : Nat → Int32 := va_up (va_up (va_up ℓ 2 2) 4 aw) 11 1
def Fhear (rk : Int32) (s ℓ : Nat → Int32) : Nat → Int32 := if rk < s 5 ∧ ℓ 5 = -6 ∧ ℓ 12 = 0 then va_up (va_up (Fwake (s 2) (va_up ℓ 9 (ℓ 9 + 1))) 5 (s 4)) 6 (rk + 1) else Fwake (s 2) (va_up ℓ 9 (ℓ 9 + 1))
def Fturn (ℓ : Nat → Int32) : Nat → Int32 := va_up (va_up ℓ 5 (-6)) 12 1
def Ffade (dim : Int32) (ℓ : Nat → Int32) : Nat → Int32 := if ℓ 2 = 0 then ℓ else if ¬ ℓ 11 = 0 then ℓ else if 0 < ℓ 4 - 1 then va_up ℓ 4 (ℓ 4 - 1) else if ℓ 2 = 2 ∧ 0 < dim then va_up (va_up (va_up ℓ 4 (ℓ 4 - 1)) 2 1) 4 dim else va_up (va_up ℓ 4 (ℓ 4 - 1)) 2 0
def Fuse (ℓ : Nat → Int32) : Nat → Int32 := if ℓ 2 = 2 then va_up ℓ 7 (ℓ 7 + 4) else if ℓ 2 = 1 then va_up ℓ 7 (ℓ 7 + 1) else ℓ
def Fbecomes (how : Int32) (ℓ : Nat → Int32) : Nat → Int32 := if how = 2 then va_up (va_up (va_up (va_up ℓ 3 how) 2 0) 4 0) 5 (-6) else va_up ℓ 3 how
def Ftell (ℓ : Nat → Int32) (x : Int32) : Int32 := if x = 0 then ℓ 0 else if x = 1 then ℓ 1 else if x = 2 then ℓ 2 else if x = 3 then ℓ 3 else if x = 4 then ℓ 4 else if x = 5 then ℓ 5 else if x = 6 then (if ℓ 5 = -6 then -6 else ℓ 6) else if x = 7 then ℓ 7 else if x = 8 then ℓ 8 else if x = 9 then ℓ 9 else if x = 10 then ℓ 10 else -2
def Fplace (a b : Int32) (ℓ : Nat → Int32) : Nat → Int32 := va_up (va_up (va_up (va_up (va_up (va_up (va_up (va_up (va_up (va_up (va_up ℓ 0 a) 1 b) 2 0) 3 0) 4 0) 5 (-6)) 6 0) 7 0) 8 0) 9 0) 10 0
theorem hdV_yX2_distanceTo : yX2_distanceTo.cls = RX2 ∧ yX2_distanceTo.cls ≠ "java/lang/invoke/MethodHandle" ∧ yX2_distanceTo.cls ≠ "java/lang/invoke/VarHandle" ∧ (parseMethodDescriptor yX2_distanceTo.desc).map (fun d => d.parameters.length) = some 1 := by decide +kernel
theorem hdV_yX2_forgetTick : yX2_forgetTick.cls = RX2 ∧ yX2_forgetTick.cls ≠ "java/lang/invoke/MethodHandle" ∧ yX2_forgetTick.cls ≠ "java/lang/invoke/VarHandle" ∧ (parseMethodDescriptor yX2_forgetTick.desc).map (fun d => d.parameters.length) = some 0 := by decide +kernel
theorem hdV_yX2_lights : yX2_lights.cls = RX2 ∧ yX2_lights.cls ≠ "java/lang/invoke/MethodHandle" ∧ yX2_lights.cls ≠ "java/lang/invoke/VarHandle" ∧ (parseMethodDescriptor yX2_lights.desc).map (fun d => d.parameters.length) = some 1 := by decide +kernel
theorem hdV_yX2_disturbs : yX2_disturbs.cls = RX2 ∧ yX2_disturbs.cls ≠ "java/lang/invoke/MethodHandle" ∧ yX2_disturbs.cls ≠ "java/lang/invoke/VarHandle" ∧ (parseMethodDescriptor yX2_disturbs.desc).map (fun d => d.parameters.length) = some 1 := by decide +kernel
theorem hdV_yX2_wake : yX2_wake.cls = RX2 ∧ yX2_wake.cls ≠ "java/lang/invoke/MethodHandle" ∧ yX2_wake.cls ≠ "java/lang/invoke/VarHandle" ∧ (parseMethodDescriptor yX2_wake.desc).map (fun d => d.parameters.length) = some 1 := by decide +kernel
theorem hdV_yX2_hear : yX2_hear.cls = RX2 ∧ yX2_hear.cls ≠ "java/lang/invoke/MethodHandle" ∧ yX2_hear.cls ≠ "java/lang/invoke/VarHandle" ∧ (parseMethodDescriptor yX2_hear.desc).map (fun d => d.parameters.length) = some 2 := by decide +kernel
theorem hdV_yX2_takeTurn : yX2_takeTurn.cls = RX2 ∧ yX2_takeTurn.cls ≠ "java/lang/invoke/MethodHandle" ∧ yX2_takeTurn.cls ≠ "java/lang/invoke/VarHandle" ∧ (parseMethodDescriptor yX2_takeTurn.desc).map (fun d => d.parameters.length) = some 0 := by decide +kernel
theorem hdV_yX2_fade : yX2_fade.cls = RX2 ∧ yX2_fade.cls ≠ "java/lang/invoke/MethodHandle" ∧ yX2_fade.cls ≠ "java/lang/invoke/VarHandle" ∧ (parseMethodDescriptor yX2_fade.desc).map (fun d => d.parameters.length) = some 1 := by decide +kernel
theorem hdV_yX2_useLight : yX2_useLight.cls = RX2 ∧ yX2_useLight.cls ≠ "java/lang/invoke/MethodHandle" ∧ yX2_useLight.cls ≠ "java/lang/invoke/VarHandle" ∧ (parseMethodDescriptor yX2_useLight.desc).map (fun d => d.parameters.length) = some 0 := by decide +kernel
theorem hdV_yX2_becomes : yX2_becomes.cls = RX2 ∧ yX2_becomes.cls ≠ "java/lang/invoke/MethodHandle" ∧ yX2_becomes.cls ≠ "java/lang/invoke/VarHandle" ∧ (parseMethodDescriptor yX2_becomes.desc).map (fun d => d.parameters.length) = some 1 := by decide +kernel
theorem hdV_yX2_tell : yX2_tell.cls = RX2 ∧ yX2_tell.cls ≠ "java/lang/invoke/MethodHandle" ∧ yX2_tell.cls ≠ "java/lang/invoke/VarHandle" ∧ (parseMethodDescriptor yX2_tell.desc).map (fun d => d.parameters.length) = some 1 := by decide +kernel
theorem hdV_yX2_place : yX2_place.cls = RX2 ∧ yX2_place.cls ≠ "java/lang/invoke/MethodHandle" ∧ yX2_place.cls ≠ "java/lang/invoke/VarHandle" ∧ (parseMethodDescriptor yX2_place.desc).map (fun d => d.parameters.length) = some 2 := by decide +kernel
set_option maxHeartbeats 4000000 in
set_option maxRecDepth 100000 in
theorem c_X2_distanceTo (l : Launch) (X : xX) (G : xG) {r i : Nat} {f sg : Nat → Int32} {L O Y P Q : Nat → Nat → Int32} {ℓ : Nat → Int32} {x : Int32} (hr : r < 11) (hi : i < 16) {res : Int32} (hres : Fdist ℓ x = res) : XC l yX2_distanceTo cX2_distanceTo 2 (some .int) 1 21 0 0 X xsh [.ref (xB X + xkey r 2 i), .int x] 603 603 (xval (xB X) (va_up G r (xSt f sg (va_up L i ℓ) O Y P Q))) (xval (xB X) (va_up G r (xSt f sg (va_up L i ℓ) O Y P Q))) (some (.int res)) := by
  refine XC.of RX2 "distanceTo" [(0, .ref (xB X + xkey r 2 i)), (1, .int x)] (by decide) rfl rfl (Nat.le_of_ble_eq_true rfl) rfl ?_
  intro p e s m args below meth c ls hx hb hret hml hts hown hlocks hnm hK hW hl
  have hW : XR X G r (xSt f sg (va_up L i ℓ) O Y P Q) s.heap [] := hW
  obtain ⟨Q0, hQ0⟩ : ∃ z, z = MQ below (xQ X xsh 603 (xval (xB X) (va_up G r (xSt f sg (va_up L i ℓ) O Y P Q))) (some (.int res))) args s 0 0 (fun q => xB X ≤ q) := ⟨_, rfl⟩
  rw [← hQ0]
  refine lv_aload_n hx hb dX2_distanceTo_0 rfl (lv_at hl 0 rfl) ?_
  refine r_get hx hb hts hown hK hW (C := RX2) (T := TX2) (xF_lamp r hr i hi) inlX2 rfl (by decide) 0 (by decide) (xr_lamp r hr i hi 0 (by decide)) xw_111 rfl (x := ℓ 0) (show (va_up L i ℓ) i 0 = ℓ 0 from xrd rfl) dX2_distanceTo_1 ?_
  refine lv_iload_n hx hb dX2_distanceTo_4 rfl (lv_at hl 1 rfl) ?_
  refine lv_isub hx hb dX2_distanceTo_5 ?_
  refine va_mabs hx hb (hml.trans hl.1.symm) hown (hts _ xw_354) (hts _ xw_355) (hts _ xw_153) (hts _ xw_356) (Nat.le_of_ble_eq_true rfl) (Nat.le_of_ble_eq_true rfl) (Nat.le_refl _) (Nat.le_refl _) dX2_distanceTo_6 ?_
  refine lv_eqi (y := xabs ((ℓ 0) - x)) rfl ?_
  obtain rfl : xabs ((ℓ 0) - x) = res := by rw [← hres]; simp [Fdist]
  rw [hQ0]
  exact x_iret hx hb hret hlocks rfl hW rfl dX2_distanceTo_9
set_option maxHeartbeats 4000000 in
set_option maxRecDepth 100000 in
theorem c_X2_forgetTick (l : Launch) (X : xX) (G : xG) {r i : Nat} {f sg : Nat → Int32} {L O Y P Q : Nat → Nat → Int32} {ℓ : Nat → Int32}  (hr : r < 11) (hi : i < 16)  : XC l yX2_forgetTick cX2_forgetTick 1 none 0 0 0 0 X xsh [.ref (xB X + xkey r 2 i)] 603 603 (xval (xB X) (va_up G r (xSt f sg (va_up L i ℓ) O Y P Q))) (xval (xB X) (va_up G r (xSt f sg (va_up L i (va_up (va_up ℓ 11 0) 12 0)) O Y P Q))) none := by
  refine XC.of RX2 "forgetTick" [(0, .ref (xB X + xkey r 2 i))] (by decide) rfl rfl (Nat.le_of_ble_eq_true rfl) rfl ?_
  intro p e s m args below meth c ls hx hb hret hml hts hown hlocks hnm hK hW hl
  have hW : XR X G r (xSt f sg (va_up L i ℓ) O Y P Q) s.heap [] := hW
  obtain ⟨Q0, hQ0⟩ : ∃ z, z = MQ below (xQ X xsh 603 (xval (xB X) (va_up G r (xSt f sg (va_up L i (va_up (va_up ℓ 11 0) 12 0)) O Y P Q))) none) args s 0 0 (fun q => xB X ≤ q) := ⟨_, rfl⟩
  rw [← hQ0]
  refine lv_aload_n hx hb dX2_forgetTick_0 rfl (lv_at hl 0 rfl) ?_
  refine lv_iconst (v := 0) hx hb dX2_forgetTick_1 (by decide) ?_
  refine r_put hx hb hts hown hK hW (C := RX2) (T := TX2) (xF_lamp r hr i hi) inlX2 tyX2 tyX2_ok nmX2 rfl (by decide) 11 (by decide) (xr_lamp r hr i hi 11 (by decide)) xw_339 rfl rfl rfl rfl xSt2f dX2_forgetTick_2 (fun H locs hW => ?_)
  refine lv_aload_n hx hb dX2_forgetTick_5 rfl (lv_at hl 0 rfl) ?_
  refine lv_iconst (v := 0) hx hb dX2_forgetTick_6 (by decide) ?_
  refine r_put hx hb hts hown hK hW (C := RX2) (T := TX2) (xF_lamp r hr i hi) inlX2 tyX2 tyX2_ok nmX2 rfl (by decide) 12 (by decide) (xr_lamp r hr i hi 12 (by decide)) xw_340 rfl rfl rfl rfl xSt2f dX2_forgetTick_7 (fun H locs hW => ?_)
  rw [hQ0]
  exact x_vret hx hb hret hlocks hW rfl dX2_forgetTick_10
set_option maxHeartbeats 4000000 in
set_option maxRecDepth 100000 in
theorem c_X2_lights (l : Launch) (X : xX) (G : xG) {r i : Nat} {f sg : Nat → Int32} {L O Y P Q : Nat → Nat → Int32} {ℓ : Nat → Int32} {x : Int32} (hr : r < 11) (hi : i < 16) {res : Int32} (hres : Flights ℓ x = res) : XC l yX2_lights cX2_lights 2 (some .boolean) 2 42 0 0 X xsh [.ref (xB X + xkey r 2 i), .int x] 603 603 (xval (xB X) (va_up G r (xSt f sg (va_up L i ℓ) O Y P Q))) (xval (xB X) (va_up G r (xSt f sg (va_up L i ℓ) O Y P Q))) (some (.int res)) := by
  refine XC.of RX2 "lights" [(0, .ref (xB X + xkey r 2 i)), (1, .int x)] (by decide) rfl rfl (Nat.le_of_ble_eq_true rfl) rfl ?_
  intro p e s m args below meth c ls hx hb hret hml hts hown hlocks hnm hK hW hl
  have hW : XR X G r (xSt f sg (va_up L i ℓ) O Y P Q) s.heap [] := hW
  obtain ⟨Q0, hQ0⟩ : ∃ z, z = MQ below (xQ X xsh 603 (xval (xB X) (va_up G r (xSt f sg (va_up L i ℓ) O Y P Q))) (some (.int res))) args s 0 0 (fun q => xB X ≤ q) := ⟨_, rfl⟩
  rw [← hQ0]
  refine lv_aload_n hx hb dX2_lights_0 rfl (lv_at hl 0 rfl) ?_
  refine r_get hx hb hts hown hK hW (C := RX2) (T := TX2) (xF_lamp r hr i hi) inlX2 rfl (by decide) 2 (by decide) (xr_lamp r hr i hi 2 (by decide)) xw_113 rfl (x := ℓ 2) (show (va_up L i ℓ) i 2 = ℓ 2 from xrd rfl) dX2_lights_1 ?_
  refine lv_if_ne (tgt := 9) hx hb dX2_lights_4 (by decide) (fun c_1 => ?_) (fun c_1 => ?_)
  · skip
    refine lv_aload_n hx hb dX2_lights_9 rfl (lv_at hl 0 rfl) ?_
    refine lv_iload_n hx hb dX2_lights_10 rfl (lv_at hl 1 rfl) ?_
    refine x_callV hx hb hml hown hts hK hW hl.1 (c_X2_distanceTo l X G (r := r) (i := i) (x := x) (hr := hr) (hi := hi) (hres := rfl)) (xF_lamp r hr i hi).1 (xF_lamp r hr i hi).2.1 (by decide) rfl xw_475 xw_351 xw_352 xw_46 xw_353 hdV_yX2_distanceTo ⟨Nat.le_of_ble_eq_true rfl, Nat.le_of_ble_eq_true rfl⟩ rfl (Nat.le_of_ble_eq_true rfl) ⟨Nat.le_refl _, Nat.le_refl _⟩ dX2_lights_11 (fun H locs hW => ?_)
    refine lv_aload_n hx hb dX2_lights_14 rfl (lv_at hl 0 rfl) ?_
    refine r_get hx hb hts hown hK hW (C := RX2) (T := TX2) (xF_lamp r hr i hi) inlX2 rfl (by decide) 2 (by decide) (xr_lamp r hr i hi 2 (by decide)) xw_113 rfl (x := ℓ 2) (show (va_up L i ℓ) i 2 = ℓ 2 from xrd rfl) dX2_lights_15 ?_
    refine lv_iconst (v := 2) hx hb dX2_lights_18 (by decide) ?_
    refine lv_icmp_ne (tgt := 29) hx hb dX2_lights_19 (by decide) (fun c_2 => ?_) (fun c_2 => ?_)
    · skip
      refine lv_aload_n hx hb dX2_lights_29 rfl (lv_at hl 0 rfl) ?_
      refine r_get hx hb hts hown hK hW (C := RX2) (T := TX2) (xF_lamp r hr i hi) inlX2 rfl (by decide) 1 (by decide) (xr_lamp r hr i hi 1 (by decide)) xw_112 rfl (x := ℓ 1) (show (va_up L i ℓ) i 1 = ℓ 1 from xrd rfl) dX2_lights_30 ?_
      refine lv_iconst (v := 2) hx hb dX2_lights_33 (by decide) ?_
      refine lv_idiv hx hb dX2_lights_34 (by decide) ?_
      refine lv_icmp_gt (tgt := 42) hx hb dX2_lights_35 (by decide) (fun c_3 => ?_) (fun c_3 => ?_)
      · skip
        refine lv_iconst (v := 0) hx hb dX2_lights_42 (by decide) ?_
        obtain rfl : 0 = res := by rw [← hres]; simp [Flights, c_1, c_2, c_3, Int32.not_le.mpr c_3]
        rw [hQ0]
        exact x_iret hx hb hret hlocks rfl hW rfl dX2_lights_43
      · skip
        refine lv_iconst (v := 1) hx hb dX2_lights_38 (by decide) ?_
        refine lv_goto (tgt := 43) hx hb dX2_lights_39 (by decide) ?_
        obtain rfl : 1 = res := by rw [← hres]; simp [Flights, c_1, c_2, c_3, Int32.not_lt.mp c_3]
        rw [hQ0]
        exact x_iret hx hb hret hlocks rfl hW rfl dX2_lights_43
    · skip
      refine lv_aload_n hx hb dX2_lights_22 rfl (lv_at hl 0 rfl) ?_
      refine r_get hx hb hts hown hK hW (C := RX2) (T := TX2) (xF_lamp r hr i hi) inlX2 rfl (by decide) 1 (by decide) (xr_lamp r hr i hi 1 (by decide)) xw_112 rfl (x := ℓ 1) (show (va_up L i ℓ) i 1 = ℓ 1 from xrd rfl) dX2_lights_23 ?_
      refine lv_goto (tgt := 35) hx hb dX2_lights_26 (by decide) ?_
      refine lv_icmp_gt (tgt := 42) hx hb dX2_lights_35 (by decide) (fun c_4 => ?_) (fun c_4 => ?_)
      · skip
        refine lv_iconst (v := 0) hx hb dX2_lights_42 (by decide) ?_
        obtain rfl : 0 = res := by rw [← hres]; simp [Flights, c_1, c_2, c_4, Int32.not_le.mpr c_4]
        rw [hQ0]
        exact x_iret hx hb hret hlocks rfl hW rfl dX2_lights_43
      · skip
        refine lv_iconst (v := 1) hx hb dX2_lights_38 (by decide) ?_
        refine lv_goto (tgt := 43) hx hb dX2_lights_39 (by decide) ?_
        obtain rfl : 1 = res := by rw [← hres]; simp [Flights, c_1, c_2, c_4, Int32.not_lt.mp c_4]
        rw [hQ0]
        exact x_iret hx hb hret hlocks rfl hW rfl dX2_lights_43
  · skip
    refine lv_iconst (v := 0) hx hb dX2_lights_7 (by decide) ?_
    obtain rfl : 0 = res := by rw [← hres]; simp [Flights, c_1]
    rw [hQ0]
    exact x_iret hx hb hret hlocks rfl hW rfl dX2_lights_8
set_option maxHeartbeats 4000000 in
set_option maxRecDepth 100000 in
theorem c_X2_disturbs (l : Launch) (X : xX) (G : xG) {r i : Nat} {f sg : Nat → Int32} {L O Y P Q : Nat → Nat → Int32} {ℓ : Nat → Int32} {x : Int32} (hr : r < 11) (hi : i < 16) {res : Int32} (hres : Fdisturbs ℓ x = res) : XC l yX2_disturbs cX2_disturbs 2 (some .boolean) 2 42 0 0 X xsh [.ref (xB X + xkey r 2 i), .int x] 603 603 (xval (xB X) (va_up G r (xSt f sg (va_up L i ℓ) O Y P Q))) (xval (xB X) (va_up G r (xSt f sg (va_up L i ℓ) O Y P Q))) (some (.int res)) := by
  refine XC.of RX2 "disturbs" [(0, .ref (xB X + xkey r 2 i)), (1, .int x)] (by decide) rfl rfl (Nat.le_of_ble_eq_true rfl) rfl ?_
  intro p e s m args below meth c ls hx hb hret hml hts hown hlocks hnm hK hW hl
  have hW : XR X G r (xSt f sg (va_up L i ℓ) O Y P Q) s.heap [] := hW
  obtain ⟨Q0, hQ0⟩ : ∃ z, z = MQ below (xQ X xsh 603 (xval (xB X) (va_up G r (xSt f sg (va_up L i ℓ) O Y P Q))) (some (.int res))) args s 0 0 (fun q => xB X ≤ q) := ⟨_, rfl⟩
  rw [← hQ0]
  refine lv_aload_n hx hb dX2_disturbs_0 rfl (lv_at hl 0 rfl) ?_
  refine r_get hx hb hts hown hK hW (C := RX2) (T := TX2) (xF_lamp r hr i hi) inlX2 rfl (by decide) 2 (by decide) (xr_lamp r hr i hi 2 (by decide)) xw_113 rfl (x := ℓ 2) (show (va_up L i ℓ) i 2 = ℓ 2 from xrd rfl) dX2_disturbs_1 ?_
  refine lv_iconst (v := 2) hx hb dX2_disturbs_4 (by decide) ?_
  refine lv_icmp_ne (tgt := 26) hx hb dX2_disturbs_5 (by decide) (fun c_1 => ?_) (fun c_1 => ?_)
  · skip
    refine lv_iconst (v := 0) hx hb dX2_disturbs_26 (by decide) ?_
    obtain rfl : 0 = res := by rw [← hres]; simp [Fdisturbs, c_1]
    rw [hQ0]
    exact x_iret hx hb hret hlocks rfl hW rfl dX2_disturbs_27
  · skip
    refine lv_aload_n hx hb dX2_disturbs_8 rfl (lv_at hl 0 rfl) ?_
    refine lv_iload_n hx hb dX2_disturbs_9 rfl (lv_at hl 1 rfl) ?_
    refine x_callV hx hb hml hown hts hK hW hl.1 (c_X2_distanceTo l X G (r := r) (i := i) (x := x) (hr := hr) (hi := hi) (hres := rfl)) (xF_lamp r hr i hi).1 (xF_lamp r hr i hi).2.1 (by decide) rfl xw_475 xw_351 xw_352 xw_46 xw_353 hdV_yX2_distanceTo ⟨Nat.le_of_ble_eq_true rfl, Nat.le_of_ble_eq_true rfl⟩ rfl (Nat.le_of_ble_eq_true rfl) ⟨Nat.le_refl _, Nat.le_refl _⟩ dX2_disturbs_10 (fun H locs hW => ?_)
    refine lv_aload_n hx hb dX2_disturbs_13 rfl (lv_at hl 0 rfl) ?_
    refine r_get hx hb hts hown hK hW (C := RX2) (T := TX2) (xF_lamp r hr i hi) inlX2 rfl (by decide) 1 (by decide) (xr_lamp r hr i hi 1 (by decide)) xw_112 rfl (x := ℓ 1) (show (va_up L i ℓ) i 1 = ℓ 1 from xrd rfl) dX2_disturbs_14 ?_
    refine lv_iconst (v := 3) hx hb dX2_disturbs_17 (by decide) ?_
    refine lv_idiv hx hb dX2_disturbs_18 (by decide) ?_
    refine lv_icmp_gt (tgt := 26) hx hb dX2_disturbs_19 (by decide) (fun c_2 => ?_) (fun c_2 => ?_)
    · skip
      refine lv_iconst (v := 0) hx hb dX2_disturbs_26 (by decide) ?_
      obtain rfl : 0 = res := by rw [← hres]; simp [Fdisturbs, c_1, c_2, Int32.not_le.mpr c_2]
      rw [hQ0]
      exact x_iret hx hb hret hlocks rfl hW rfl dX2_disturbs_27
    · skip
      refine lv_iconst (v := 1) hx hb dX2_disturbs_22 (by decide) ?_
      refine lv_goto (tgt := 27) hx hb dX2_disturbs_23 (by decide) ?_
      obtain rfl : 1 = res := by rw [← hres]; simp [Fdisturbs, c_1, c_2, Int32.not_lt.mp c_2]
      rw [hQ0]
      exact x_iret hx hb hret hlocks rfl hW rfl dX2_disturbs_27
set_option maxHeartbeats 4000000 in
set_option maxRecDepth 100000 in
theorem c_X2_wake (l : Launch) (X : xX) (G : xG) {r i : Nat} {f sg : Nat → Int32} {L O Y P Q : Nat → Nat → Int32} {ℓ : Nat → Int32} {aw : Int32} (hr : r < 11) (hi : i < 16)  : XC l yX2_wake cX2_wake 2 none 0 0 0 0 X xsh [.ref (xB X + xkey r 2 i), .int aw] 603 603 (xval (xB X) (va_up G r (xSt f sg (va_up L i ℓ) O Y P Q))) (xval (xB X) (va_up G r (xSt f sg (va_up L i (va_up (va_up (va_up ℓ 2 2) 4 aw) 11 1)) O Y P Q))) none := by
  refine XC.of RX2 "wake" [(0, .ref (xB X + xkey r 2 i)), (1, .int aw)] (by decide) rfl rfl (Nat.le_of_ble_eq_true rfl) rfl ?_
  intro p e s m args below meth c ls hx hb hret hml hts hown hlocks hnm hK hW hl
  have hW : XR X G r (xSt f sg (va_up L i ℓ) O Y P Q) s.heap [] := hW
  obtain ⟨Q0, hQ0⟩ : ∃ z, z = MQ below (xQ X xsh 603 (xval (xB X) (va_up G r (xSt f sg (va_up L i (va_up (va_up (va_up ℓ 2 2) 4 aw) 11 1)) O Y P Q))) none) args s 0 0 (fun q => xB X ≤ q) := ⟨_, rfl⟩
  rw [← hQ0]
  refine lv_aload_n hx hb dX2_wake_0 rfl (lv_at hl 0 rfl) ?_
  refine lv_iconst (v := 2) hx hb dX2_wake_1 (by decide) ?_
  refine r_put hx hb hts hown hK hW (C := RX2) (T := TX2) (xF_lamp r hr i hi) inlX2 tyX2 tyX2_ok nmX2 rfl (by decide) 2 (by decide) (xr_lamp r hr i hi 2 (by decide)) xw_113 rfl rfl rfl rfl xSt2f dX2_wake_2 (fun H locs hW => ?_)
  refine lv_aload_n hx hb dX2_wake_5 rfl (lv_at hl 0 rfl) ?_
  refine lv_iload_n hx hb dX2_wake_6 rfl (lv_at hl 1 rfl) ?_
  refine r_put hx hb hts hown hK hW (C := RX2) (T := TX2) (xF_lamp r hr i hi) inlX2 tyX2 tyX2_ok nmX2 rfl (by decide) 4 (by decide) (xr_lamp r hr i hi 4 (by decide)) xw_115 rfl rfl rfl rfl xSt2f dX2_wake_7 (fun H locs hW => ?_)
  refine lv_aload_n hx hb dX2_wake_10 rfl (lv_at hl 0 rfl) ?_
  refine lv_iconst (v := 1) hx hb dX2_wake_11 (by decide) ?_
  refine r_put hx hb hts hown hK hW (C := RX2) (T := TX2) (xF_lamp r hr i hi) inlX2 tyX2 tyX2_ok nmX2 rfl (by decide) 11 (by decide) (xr_lamp r hr i hi 11 (by decide)) xw_339 rfl rfl rfl rfl xSt2f dX2_wake_12 (fun H locs hW => ?_)
  rw [hQ0]
  exact x_vret hx hb hret hlocks hW rfl dX2_wake_15
set_option maxHeartbeats 4000000 in
set_option maxRecDepth 100000 in
theorem c_X2_hear (l : Launch) (X : xX) (G : xG) {r i : Nat} {f sg : Nat → Int32} {L O Y P Q : Nat → Nat → Int32} {ℓ : Nat → Int32} {rk : Int32} (hr : r < 11) (hi : i < 16) {ℓ' : Nat → Int32} (ho0 : Fhear rk sg ℓ = ℓ') : XC l yX2_hear cX2_hear 3 none 1 21 0 0 X xsh [.ref (xB X + xkey r 2 i), .int rk, .ref (xB X + xkey r 1 0)] 603 603 (xval (xB X) (va_up G r (xSt f sg (va_up L i ℓ) O Y P Q))) (xval (xB X) (va_up G r (xSt f sg (va_up L i ℓ') O Y P Q))) none := by
  refine XC.of RX2 "hear" [(0, .ref (xB X + xkey r 2 i)), (1, .int rk), (2, .ref (xB X + xkey r 1 0))] (by decide) rfl rfl (Nat.le_of_ble_eq_true rfl) rfl ?_
  intro p e s m args below meth c ls hx hb hret hml hts hown hlocks hnm hK hW hl
  have hW : XR X G r (xSt f sg (va_up L i ℓ) O Y P Q) s.heap [] := hW
  obtain ⟨Q0, hQ0⟩ : ∃ z, z = MQ below (xQ X xsh 603 (xval (xB X) (va_up G r (xSt f sg (va_up L i ℓ') O Y P Q))) none) args s 0 0 (fun q => xB X ≤ q) := ⟨_, rfl⟩
  rw [← hQ0]
  refine lv_aload_n hx hb dX2_hear_0 rfl (lv_at hl 0 rfl) ?_
  refine lv_dup hx hb dX2_hear_1 rfl ?_
  refine r_get hx hb hts hown hK hW (C := RX2) (T := TX2) (xF_lamp r hr i hi) inlX2 rfl (by decide) 9 (by decide) (xr_lamp r hr i hi 9 (by decide)) xw_120 rfl (x := ℓ 9) (show (va_up L i ℓ) i 9 = ℓ 9 from xrd rfl) dX2_hear_2 ?_
  refine lv_iconst (v := 1) hx hb dX2_hear_5 (by decide) ?_
  refine lv_iadd hx hb dX2_hear_6 ?_
  refine r_put hx hb hts hown hK hW (C := RX2) (T := TX2) (xF_lamp r hr i hi) inlX2 tyX2 tyX2_ok nmX2 rfl (by decide) 9 (by decide) (xr_lamp r hr i hi 9 (by decide)) xw_120 rfl rfl rfl rfl xSt2f dX2_hear_7 (fun H locs hW => ?_)
  refine lv_aload_n hx hb dX2_hear_10 rfl (lv_at hl 0 rfl) ?_
  refine lv_aload_n hx hb dX2_hear_11 rfl (lv_at hl 2 rfl) ?_
  refine lv_iconst (v := 2) hx hb dX2_hear_12 (by decide) ?_
  refine r_iald hx hb hK hW (N := 6) (xF_sett r hr) 2 (by decide) (by decide) (by decide) (xr_sett r hr 2 (by decide)) (x := sg 2) rfl dX2_hear_13 ?_
  refine x_callV hx hb hml hown hts hK hW hl.1 (c_X2_wake l X G (r := r) (i := i) (aw := sg 2) (hr := hr) (hi := hi) ) (xF_lamp r hr i hi).1 (xF_lamp r hr i hi).2.1 (by decide) rfl xw_361 xw_362 xw_363 xw_46 xw_364 hdV_yX2_wake ⟨Nat.le_of_ble_eq_true rfl, Nat.le_of_ble_eq_true rfl⟩ rfl (Nat.le_of_ble_eq_true rfl) ⟨Nat.le_refl _, Nat.le_refl _⟩ dX2_hear_14 (fun H locs hW => ?_)
  have hW : XR X G r (xSt f sg (va_up L i (va_up (va_up (va_up (va_up ℓ 9 ((ℓ 9) + 1)) 2 2) 4 (sg 2)) 11 1)) O Y P Q) H locs := hW
  refine lv_iload_n hx hb dX2_hear_17 rfl (lv_at hl 1 rfl) ?_
  refine lv_aload_n hx hb dX2_hear_18 rfl (lv_at hl 2 rfl) ?_
  refine lv_iconst (v := 5) hx hb dX2_hear_19 (by decide) ?_
  refine r_iald hx hb hK hW (N := 6) (xF_sett r hr) 5 (by decide) (by decide) (by decide) (xr_sett r hr 5 (by decide)) (x := sg 5) rfl dX2_hear_20 ?_
  refine lv_icmp_ge (tgt := 54) hx hb dX2_hear_21 (by decide) (fun c_1 => ?_) (fun c_1 => ?_)
  · skip
    obtain rfl : (va_up (va_up (va_up (va_up ℓ 9 ((ℓ 9) + 1)) 2 2) 4 (sg 2)) 11 1) = ℓ' := by rw [← ho0]; simp [Fhear, Fwake, c_1, Int32.not_lt.mpr c_1]
    rw [hQ0]
    exact x_vret hx hb hret hlocks hW rfl dX2_hear_54
  · skip
    refine lv_aload_n hx hb dX2_hear_24 rfl (lv_at hl 0 rfl) ?_
    refine r_get hx hb hts hown hK hW (C := RX2) (T := TX2) (xF_lamp r hr i hi) inlX2 rfl (by decide) 5 (by decide) (xr_lamp r hr i hi 5 (by decide)) xw_116 rfl (x := ℓ 5) (show (va_up L i (va_up (va_up (va_up (va_up ℓ 9 ((ℓ 9) + 1)) 2 2) 4 (sg 2)) 11 1)) i 5 = ℓ 5 from xrd rfl) dX2_hear_25 ?_
    refine lv_bipush (v := (-6)) hx hb dX2_hear_28 (by decide) ?_
    refine lv_icmp_ne (tgt := 54) hx hb dX2_hear_30 (by decide) (fun c_2 => ?_) (fun c_2 => ?_)
    · skip
      obtain rfl : (va_up (va_up (va_up (va_up ℓ 9 ((ℓ 9) + 1)) 2 2) 4 (sg 2)) 11 1) = ℓ' := by rw [← ho0]; simp [Fhear, Fwake, c_1, Int32.not_le.mp c_1, c_2]
      rw [hQ0]
      exact x_vret hx hb hret hlocks hW rfl dX2_hear_54
    · skip
      refine lv_aload_n hx hb dX2_hear_33 rfl (lv_at hl 0 rfl) ?_
      refine r_get hx hb hts hown hK hW (C := RX2) (T := TX2) (xF_lamp r hr i hi) inlX2 rfl (by decide) 12 (by decide) (xr_lamp r hr i hi 12 (by decide)) xw_340 rfl (x := ℓ 12) (show (va_up L i (va_up (va_up (va_up (va_up ℓ 9 ((ℓ 9) + 1)) 2 2) 4 (sg 2)) 11 1)) i 12 = ℓ 12 from xrd rfl) dX2_hear_34 ?_
      refine lv_if_ne (tgt := 54) hx hb dX2_hear_37 (by decide) (fun c_3 => ?_) (fun c_3 => ?_)
      · skip
        obtain rfl : (va_up (va_up (va_up (va_up ℓ 9 ((ℓ 9) + 1)) 2 2) 4 (sg 2)) 11 1) = ℓ' := by rw [← ho0]; simp [Fhear, Fwake, c_1, Int32.not_le.mp c_1, c_2, c_3]
        rw [hQ0]
        exact x_vret hx hb hret hlocks hW rfl dX2_hear_54
      · skip
        refine lv_aload_n hx hb dX2_hear_40 rfl (lv_at hl 0 rfl) ?_
        refine lv_aload_n hx hb dX2_hear_41 rfl (lv_at hl 2 rfl) ?_
        refine lv_iconst (v := 4) hx hb dX2_hear_42 (by decide) ?_
        refine r_iald hx hb hK hW (N := 6) (xF_sett r hr) 4 (by decide) (by decide) (by decide) (xr_sett r hr 4 (by decide)) (x := sg 4) rfl dX2_hear_43 ?_
        refine r_put hx hb hts hown hK hW (C := RX2) (T := TX2) (xF_lamp r hr i hi) inlX2 tyX2 tyX2_ok nmX2 rfl (by decide) 5 (by decide) (xr_lamp r hr i hi 5 (by decide)) xw_116 rfl rfl rfl rfl xSt2f dX2_hear_44 (fun H locs hW => ?_)
        refine lv_aload_n hx hb dX2_hear_47 rfl (lv_at hl 0 rfl) ?_
        refine lv_iload_n hx hb dX2_hear_48 rfl (lv_at hl 1 rfl) ?_
        refine lv_iconst (v := 1) hx hb dX2_hear_49 (by decide) ?_
        refine lv_iadd hx hb dX2_hear_50 ?_
        refine r_put hx hb hts hown hK hW (C := RX2) (T := TX2) (xF_lamp r hr i hi) inlX2 tyX2 tyX2_ok nmX2 rfl (by decide) 6 (by decide) (xr_lamp r hr i hi 6 (by decide)) xw_117 rfl rfl rfl rfl xSt2f dX2_hear_51 (fun H locs hW => ?_)
        obtain rfl : (va_up (va_up (va_up (va_up (va_up (va_up ℓ 9 ((ℓ 9) + 1)) 2 2) 4 (sg 2)) 11 1) 5 (sg 4)) 6 (rk + 1)) = ℓ' := by rw [← ho0]; simp [Fhear, Fwake, c_1, Int32.not_le.mp c_1, c_2, c_3]
        rw [hQ0]
        exact x_vret hx hb hret hlocks hW rfl dX2_hear_54
set_option maxHeartbeats 4000000 in
set_option maxRecDepth 100000 in
theorem c_X2_takeTurn (l : Launch) (X : xX) (G : xG) {r i : Nat} {f sg : Nat → Int32} {L O Y P Q : Nat → Nat → Int32} {ℓ : Nat → Int32}  (hr : r < 11) (hi : i < 16)  : XC l yX2_takeTurn cX2_takeTurn 1 none 0 0 0 0 X xsh [.ref (xB X + xkey r 2 i)] 603 603 (xval (xB X) (va_up G r (xSt f sg (va_up L i ℓ) O Y P Q))) (xval (xB X) (va_up G r (xSt f sg (va_up L i (va_up (va_up ℓ 5 (-6)) 12 1)) O Y P Q))) none := by
  refine XC.of RX2 "takeTurn" [(0, .ref (xB X + xkey r 2 i))] (by decide) rfl rfl (Nat.le_of_ble_eq_true rfl) rfl ?_
  intro p e s m args below meth c ls hx hb hret hml hts hown hlocks hnm hK hW hl
  have hW : XR X G r (xSt f sg (va_up L i ℓ) O Y P Q) s.heap [] := hW
  obtain ⟨Q0, hQ0⟩ : ∃ z, z = MQ below (xQ X xsh 603 (xval (xB X) (va_up G r (xSt f sg (va_up L i (va_up (va_up ℓ 5 (-6)) 12 1)) O Y P Q))) none) args s 0 0 (fun q => xB X ≤ q) := ⟨_, rfl⟩
  rw [← hQ0]
  refine lv_aload_n hx hb dX2_takeTurn_0 rfl (lv_at hl 0 rfl) ?_
  refine lv_bipush (v := (-6)) hx hb dX2_takeTurn_1 (by decide) ?_
  refine r_put hx hb hts hown hK hW (C := RX2) (T := TX2) (xF_lamp r hr i hi) inlX2 tyX2 tyX2_ok nmX2 rfl (by decide) 5 (by decide) (xr_lamp r hr i hi 5 (by decide)) xw_116 rfl rfl rfl rfl xSt2f dX2_takeTurn_3 (fun H locs hW => ?_)
  refine lv_aload_n hx hb dX2_takeTurn_6 rfl (lv_at hl 0 rfl) ?_
  refine lv_iconst (v := 1) hx hb dX2_takeTurn_7 (by decide) ?_
  refine r_put hx hb hts hown hK hW (C := RX2) (T := TX2) (xF_lamp r hr i hi) inlX2 tyX2 tyX2_ok nmX2 rfl (by decide) 12 (by decide) (xr_lamp r hr i hi 12 (by decide)) xw_340 rfl rfl rfl rfl xSt2f dX2_takeTurn_8 (fun H locs hW => ?_)
  rw [hQ0]
  exact x_vret hx hb hret hlocks hW rfl dX2_takeTurn_11
set_option maxHeartbeats 4000000 in
set_option maxRecDepth 100000 in
theorem c_X2_fade (l : Launch) (X : xX) (G : xG) {r i : Nat} {f sg : Nat → Int32} {L O Y P Q : Nat → Nat → Int32} {ℓ : Nat → Int32} {dim : Int32} (hr : r < 11) (hi : i < 16) {ℓ' : Nat → Int32} (ho0 : Ffade dim ℓ = ℓ') : XC l yX2_fade cX2_fade 2 none 0 0 0 0 X xsh [.ref (xB X + xkey r 2 i), .int dim] 603 603 (xval (xB X) (va_up G r (xSt f sg (va_up L i ℓ) O Y P Q))) (xval (xB X) (va_up G r (xSt f sg (va_up L i ℓ') O Y P Q))) none := by
  refine XC.of RX2 "fade" [(0, .ref (xB X + xkey r 2 i)), (1, .int dim)] (by decide) rfl rfl (Nat.le_of_ble_eq_true rfl) rfl ?_
  intro p e s m args below meth c ls hx hb hret hml hts hown hlocks hnm hK hW hl
  have hW : XR X G r (xSt f sg (va_up L i ℓ) O Y P Q) s.heap [] := hW
  obtain ⟨Q0, hQ0⟩ : ∃ z, z = MQ below (xQ X xsh 603 (xval (xB X) (va_up G r (xSt f sg (va_up L i ℓ') O Y P Q))) none) args s 0 0 (fun q => xB X ≤ q) := ⟨_, rfl⟩
  rw [← hQ0]
  refine lv_aload_n hx hb dX2_fade_0 rfl (lv_at hl 0 rfl) ?_
  refine r_get hx hb hts hown hK hW (C := RX2) (T := TX2) (xF_lamp r hr i hi) inlX2 rfl (by decide) 2 (by decide) (xr_lamp r hr i hi 2 (by decide)) xw_113 rfl (x := ℓ 2) (show (va_up L i ℓ) i 2 = ℓ 2 from xrd rfl) dX2_fade_1 ?_
  refine lv_if_eq (tgt := 14) hx hb dX2_fade_4 (by decide) (fun c_1 => ?_) (fun c_1 => ?_)
  · skip
    obtain rfl : ℓ = ℓ' := by rw [← ho0]; simp [Ffade, c_1]
    rw [hQ0]
    exact x_vret hx hb hret hlocks hW rfl dX2_fade_14
  · skip
    refine lv_aload_n hx hb dX2_fade_7 rfl (lv_at hl 0 rfl) ?_
    refine r_get hx hb hts hown hK hW (C := RX2) (T := TX2) (xF_lamp r hr i hi) inlX2 rfl (by decide) 11 (by decide) (xr_lamp r hr i hi 11 (by decide)) xw_339 rfl (x := ℓ 11) (show (va_up L i ℓ) i 11 = ℓ 11 from xrd rfl) dX2_fade_8 ?_
    refine lv_if_eq (tgt := 15) hx hb dX2_fade_11 (by decide) (fun c_2 => ?_) (fun c_2 => ?_)
    · skip
      refine lv_aload_n hx hb dX2_fade_15 rfl (lv_at hl 0 rfl) ?_
      refine lv_dup hx hb dX2_fade_16 rfl ?_
      refine r_get hx hb hts hown hK hW (C := RX2) (T := TX2) (xF_lamp r hr i hi) inlX2 rfl (by decide) 4 (by decide) (xr_lamp r hr i hi 4 (by decide)) xw_115 rfl (x := ℓ 4) (show (va_up L i ℓ) i 4 = ℓ 4 from xrd rfl) dX2_fade_17 ?_
      refine lv_iconst (v := 1) hx hb dX2_fade_20 (by decide) ?_
      refine lv_isub hx hb dX2_fade_21 ?_
      refine r_put hx hb hts hown hK hW (C := RX2) (T := TX2) (xF_lamp r hr i hi) inlX2 tyX2 tyX2_ok nmX2 rfl (by decide) 4 (by decide) (xr_lamp r hr i hi 4 (by decide)) xw_115 rfl rfl rfl rfl xSt2f dX2_fade_22 (fun H locs hW => ?_)
      refine lv_aload_n hx hb dX2_fade_25 rfl (lv_at hl 0 rfl) ?_
      refine r_get hx hb hts hown hK hW (C := RX2) (T := TX2) (xF_lamp r hr i hi) inlX2 rfl (by decide) 4 (by decide) (xr_lamp r hr i hi 4 (by decide)) xw_115 rfl (x := (ℓ 4) - 1) (show (va_up L i (va_up ℓ 4 ((ℓ 4) - 1))) i 4 = (ℓ 4) - 1 from xrd rfl) dX2_fade_26 ?_
      refine lv_if_le (tgt := 33) hx hb dX2_fade_29 (by decide) (fun c_3 => ?_) (fun c_3 => ?_)
      · skip
        refine lv_aload_n hx hb dX2_fade_33 rfl (lv_at hl 0 rfl) ?_
        refine r_get hx hb hts hown hK hW (C := RX2) (T := TX2) (xF_lamp r hr i hi) inlX2 rfl (by decide) 2 (by decide) (xr_lamp r hr i hi 2 (by decide)) xw_113 rfl (x := ℓ 2) (show (va_up L i (va_up ℓ 4 ((ℓ 4) - 1))) i 2 = ℓ 2 from xrd rfl) dX2_fade_34 ?_
        refine lv_iconst (v := 2) hx hb dX2_fade_37 (by decide) ?_
        refine lv_icmp_ne (tgt := 58) hx hb dX2_fade_38 (by decide) (fun c_4 => ?_) (fun c_4 => ?_)
        · skip
          refine lv_aload_n hx hb dX2_fade_58 rfl (lv_at hl 0 rfl) ?_
          refine lv_iconst (v := 0) hx hb dX2_fade_59 (by decide) ?_
          refine r_put hx hb hts hown hK hW (C := RX2) (T := TX2) (xF_lamp r hr i hi) inlX2 tyX2 tyX2_ok nmX2 rfl (by decide) 2 (by decide) (xr_lamp r hr i hi 2 (by decide)) xw_113 rfl rfl rfl rfl xSt2f dX2_fade_60 (fun H locs hW => ?_)
          obtain rfl : (va_up (va_up ℓ 4 ((ℓ 4) - 1)) 2 0) = ℓ' := by rw [← ho0]; simp [Ffade, c_1, c_2, c_3, Int32.not_lt.mpr c_3, c_4]
          rw [hQ0]
          exact x_vret hx hb hret hlocks hW rfl dX2_fade_63
        · skip
          refine lv_iload_n hx hb dX2_fade_41 rfl (lv_at hl 1 rfl) ?_
          refine lv_if_le (tgt := 58) hx hb dX2_fade_42 (by decide) (fun c_5 => ?_) (fun c_5 => ?_)
          · skip
            refine lv_aload_n hx hb dX2_fade_58 rfl (lv_at hl 0 rfl) ?_
            refine lv_iconst (v := 0) hx hb dX2_fade_59 (by decide) ?_
            refine r_put hx hb hts hown hK hW (C := RX2) (T := TX2) (xF_lamp r hr i hi) inlX2 tyX2 tyX2_ok nmX2 rfl (by decide) 2 (by decide) (xr_lamp r hr i hi 2 (by decide)) xw_113 rfl rfl rfl rfl xSt2f dX2_fade_60 (fun H locs hW => ?_)
            obtain rfl : (va_up (va_up ℓ 4 ((ℓ 4) - 1)) 2 0) = ℓ' := by rw [← ho0]; simp [Ffade, c_1, c_2, c_3, Int32.not_lt.mpr c_3, c_4, c_5, Int32.not_lt.mpr c_5]
            rw [hQ0]
            exact x_vret hx hb hret hlocks hW rfl dX2_fade_63
          · skip
            refine lv_aload_n hx hb dX2_fade_45 rfl (lv_at hl 0 rfl) ?_
            refine lv_iconst (v := 1) hx hb dX2_fade_46 (by decide) ?_
            refine r_put hx hb hts hown hK hW (C := RX2) (T := TX2) (xF_lamp r hr i hi) inlX2 tyX2 tyX2_ok nmX2 rfl (by decide) 2 (by decide) (xr_lamp r hr i hi 2 (by decide)) xw_113 rfl rfl rfl rfl xSt2f dX2_fade_47 (fun H locs hW => ?_)
            refine lv_aload_n hx hb dX2_fade_50 rfl (lv_at hl 0 rfl) ?_
            refine lv_iload_n hx hb dX2_fade_51 rfl (lv_at hl 1 rfl) ?_
            refine r_put hx hb hts hown hK hW (C := RX2) (T := TX2) (xF_lamp r hr i hi) inlX2 tyX2 tyX2_ok nmX2 rfl (by decide) 4 (by decide) (xr_lamp r hr i hi 4 (by decide)) xw_115 rfl rfl rfl rfl xSt2f dX2_fade_52 (fun H locs hW => ?_)
            refine lv_goto (tgt := 63) hx hb dX2_fade_55 (by decide) ?_
            obtain rfl : (va_up (va_up (va_up ℓ 4 ((ℓ 4) - 1)) 2 1) 4 dim) = ℓ' := by rw [← ho0]; simp [Ffade, c_1, c_2, c_3, Int32.not_lt.mpr c_3, c_4, c_5, Int32.not_le.mp c_5]
            rw [hQ0]
            exact x_vret hx hb hret hlocks hW rfl dX2_fade_63
      · skip
        obtain rfl : (va_up ℓ 4 ((ℓ 4) - 1)) = ℓ' := by rw [← ho0]; simp [Ffade, c_1, c_2, c_3, Int32.not_le.mp c_3]
        rw [hQ0]
        exact x_vret hx hb hret hlocks hW rfl dX2_fade_32
    · skip
      obtain rfl : ℓ = ℓ' := by rw [← ho0]; simp [Ffade, c_1, c_2]
      rw [hQ0]
      exact x_vret hx hb hret hlocks hW rfl dX2_fade_14
set_option maxHeartbeats 4000000 in
set_option maxRecDepth 100000 in
theorem c_X2_useLight (l : Launch) (X : xX) (G : xG) {r i : Nat} {f sg : Nat → Int32} {L O Y P Q : Nat → Nat → Int32} {ℓ : Nat → Int32}  (hr : r < 11) (hi : i < 16) {ℓ' : Nat → Int32} (ho0 : Fuse ℓ = ℓ') : XC l yX2_useLight cX2_useLight 1 none 0 0 0 0 X xsh [.ref (xB X + xkey r 2 i)] 603 603 (xval (xB X) (va_up G r (xSt f sg (va_up L i ℓ) O Y P Q))) (xval (xB X) (va_up G r (xSt f sg (va_up L i ℓ') O Y P Q))) none := by
  refine XC.of RX2 "useLight" [(0, .ref (xB X + xkey r 2 i))] (by decide) rfl rfl (Nat.le_of_ble_eq_true rfl) rfl ?_
  intro p e s m args below meth c ls hx hb hret hml hts hown hlocks hnm hK hW hl
  have hW : XR X G r (xSt f sg (va_up L i ℓ) O Y P Q) s.heap [] := hW
  obtain ⟨Q0, hQ0⟩ : ∃ z, z = MQ below (xQ X xsh 603 (xval (xB X) (va_up G r (xSt f sg (va_up L i ℓ') O Y P Q))) none) args s 0 0 (fun q => xB X ≤ q) := ⟨_, rfl⟩
  rw [← hQ0]
  refine lv_aload_n hx hb dX2_useLight_0 rfl (lv_at hl 0 rfl) ?_
  refine r_get hx hb hts hown hK hW (C := RX2) (T := TX2) (xF_lamp r hr i hi) inlX2 rfl (by decide) 2 (by decide) (xr_lamp r hr i hi 2 (by decide)) xw_113 rfl (x := ℓ 2) (show (va_up L i ℓ) i 2 = ℓ 2 from xrd rfl) dX2_useLight_1 ?_
  refine lv_iconst (v := 2) hx hb dX2_useLight_4 (by decide) ?_
  refine lv_icmp_ne (tgt := 21) hx hb dX2_useLight_5 (by decide) (fun c_1 => ?_) (fun c_1 => ?_)
  · skip
    refine lv_aload_n hx hb dX2_useLight_21 rfl (lv_at hl 0 rfl) ?_
    refine r_get hx hb hts hown hK hW (C := RX2) (T := TX2) (xF_lamp r hr i hi) inlX2 rfl (by decide) 2 (by decide) (xr_lamp r hr i hi 2 (by decide)) xw_113 rfl (x := ℓ 2) (show (va_up L i ℓ) i 2 = ℓ 2 from xrd rfl) dX2_useLight_22 ?_
    refine lv_iconst (v := 1) hx hb dX2_useLight_25 (by decide) ?_
    refine lv_icmp_ne (tgt := 39) hx hb dX2_useLight_26 (by decide) (fun c_2 => ?_) (fun c_2 => ?_)
    · skip
      obtain rfl : ℓ = ℓ' := by rw [← ho0]; simp [Fuse, c_1, c_2]
      rw [hQ0]
      exact x_vret hx hb hret hlocks hW rfl dX2_useLight_39
    · skip
      refine lv_aload_n hx hb dX2_useLight_29 rfl (lv_at hl 0 rfl) ?_
      refine lv_dup hx hb dX2_useLight_30 rfl ?_
      refine r_get hx hb hts hown hK hW (C := RX2) (T := TX2) (xF_lamp r hr i hi) inlX2 rfl (by decide) 7 (by decide) (xr_lamp r hr i hi 7 (by decide)) xw_118 rfl (x := ℓ 7) (show (va_up L i ℓ) i 7 = ℓ 7 from xrd rfl) dX2_useLight_31 ?_
      refine lv_iconst (v := 1) hx hb dX2_useLight_34 (by decide) ?_
      refine lv_iadd hx hb dX2_useLight_35 ?_
      refine r_put hx hb hts hown hK hW (C := RX2) (T := TX2) (xF_lamp r hr i hi) inlX2 tyX2 tyX2_ok nmX2 rfl (by decide) 7 (by decide) (xr_lamp r hr i hi 7 (by decide)) xw_118 rfl rfl rfl rfl xSt2f dX2_useLight_36 (fun H locs hW => ?_)
      obtain rfl : (va_up ℓ 7 ((ℓ 7) + 1)) = ℓ' := by rw [← ho0]; simp [Fuse, c_1, c_2]
      rw [hQ0]
      exact x_vret hx hb hret hlocks hW rfl dX2_useLight_39
  · skip
    refine lv_aload_n hx hb dX2_useLight_8 rfl (lv_at hl 0 rfl) ?_
    refine lv_dup hx hb dX2_useLight_9 rfl ?_
    refine r_get hx hb hts hown hK hW (C := RX2) (T := TX2) (xF_lamp r hr i hi) inlX2 rfl (by decide) 7 (by decide) (xr_lamp r hr i hi 7 (by decide)) xw_118 rfl (x := ℓ 7) (show (va_up L i ℓ) i 7 = ℓ 7 from xrd rfl) dX2_useLight_10 ?_
    refine lv_iconst (v := 4) hx hb dX2_useLight_13 (by decide) ?_
    refine lv_iadd hx hb dX2_useLight_14 ?_
    refine r_put hx hb hts hown hK hW (C := RX2) (T := TX2) (xF_lamp r hr i hi) inlX2 tyX2 tyX2_ok nmX2 rfl (by decide) 7 (by decide) (xr_lamp r hr i hi 7 (by decide)) xw_118 rfl rfl rfl rfl xSt2f dX2_useLight_15 (fun H locs hW => ?_)
    refine lv_goto (tgt := 39) hx hb dX2_useLight_18 (by decide) ?_
    obtain rfl : (va_up ℓ 7 ((ℓ 7) + 4)) = ℓ' := by rw [← ho0]; simp [Fuse, c_1]
    rw [hQ0]
    exact x_vret hx hb hret hlocks hW rfl dX2_useLight_39
set_option maxHeartbeats 4000000 in
set_option maxRecDepth 100000 in
theorem c_X2_becomes (l : Launch) (X : xX) (G : xG) {r i : Nat} {f sg : Nat → Int32} {L O Y P Q : Nat → Nat → Int32} {ℓ : Nat → Int32} {how : Int32} (hr : r < 11) (hi : i < 16) {ℓ' : Nat → Int32} (ho0 : Fbecomes how ℓ = ℓ') : XC l yX2_becomes cX2_becomes 2 none 0 0 0 0 X xsh [.ref (xB X + xkey r 2 i), .int how] 603 603 (xval (xB X) (va_up G r (xSt f sg (va_up L i ℓ) O Y P Q))) (xval (xB X) (va_up G r (xSt f sg (va_up L i ℓ') O Y P Q))) none := by
  refine XC.of RX2 "becomes" [(0, .ref (xB X + xkey r 2 i)), (1, .int how)] (by decide) rfl rfl (Nat.le_of_ble_eq_true rfl) rfl ?_
  intro p e s m args below meth c ls hx hb hret hml hts hown hlocks hnm hK hW hl
  have hW : XR X G r (xSt f sg (va_up L i ℓ) O Y P Q) s.heap [] := hW
  obtain ⟨Q0, hQ0⟩ : ∃ z, z = MQ below (xQ X xsh 603 (xval (xB X) (va_up G r (xSt f sg (va_up L i ℓ') O Y P Q))) none) args s 0 0 (fun q => xB X ≤ q) := ⟨_, rfl⟩
  rw [← hQ0]
  refine lv_aload_n hx hb dX2_becomes_0 rfl (lv_at hl 0 rfl) ?_
  refine lv_iload_n hx hb dX2_becomes_1 rfl (lv_at hl 1 rfl) ?_
  refine r_put hx hb hts hown hK hW (C := RX2) (T := TX2) (xF_lamp r hr i hi) inlX2 tyX2 tyX2_ok nmX2 rfl (by decide) 3 (by decide) (xr_lamp r hr i hi 3 (by decide)) xw_114 rfl rfl rfl rfl xSt2f dX2_becomes_2 (fun H locs hW => ?_)
  refine lv_aload_n hx hb dX2_becomes_5 rfl (lv_at hl 0 rfl) ?_
  refine r_get hx hb hts hown hK hW (C := RX2) (T := TX2) (xF_lamp r hr i hi) inlX2 rfl (by decide) 3 (by decide) (xr_lamp r hr i hi 3 (by decide)) xw_114 rfl (x := how) (show (va_up L i (va_up ℓ 3 how)) i 3 = how from xrd rfl) dX2_becomes_6 ?_
  refine lv_iconst (v := 2) hx hb dX2_becomes_9 (by decide) ?_
  refine lv_icmp_ne (tgt := 29) hx hb dX2_becomes_10 (by decide) (fun c_1 => ?_) (fun c_1 => ?_)
  · skip
    obtain rfl : (va_up ℓ 3 how) = ℓ' := by rw [← ho0]; simp [Fbecomes, c_1]
    rw [hQ0]
    exact x_vret hx hb hret hlocks hW rfl dX2_becomes_29
  · skip
    refine lv_aload_n hx hb dX2_becomes_13 rfl (lv_at hl 0 rfl) ?_
    refine lv_iconst (v := 0) hx hb dX2_becomes_14 (by decide) ?_
    refine r_put hx hb hts hown hK hW (C := RX2) (T := TX2) (xF_lamp r hr i hi) inlX2 tyX2 tyX2_ok nmX2 rfl (by decide) 2 (by decide) (xr_lamp r hr i hi 2 (by decide)) xw_113 rfl rfl rfl rfl xSt2f dX2_becomes_15 (fun H locs hW => ?_)
    refine lv_aload_n hx hb dX2_becomes_18 rfl (lv_at hl 0 rfl) ?_
    refine lv_iconst (v := 0) hx hb dX2_becomes_19 (by decide) ?_
    refine r_put hx hb hts hown hK hW (C := RX2) (T := TX2) (xF_lamp r hr i hi) inlX2 tyX2 tyX2_ok nmX2 rfl (by decide) 4 (by decide) (xr_lamp r hr i hi 4 (by decide)) xw_115 rfl rfl rfl rfl xSt2f dX2_becomes_20 (fun H locs hW => ?_)
    refine lv_aload_n hx hb dX2_becomes_23 rfl (lv_at hl 0 rfl) ?_
    refine lv_bipush (v := (-6)) hx hb dX2_becomes_24 (by decide) ?_
    refine r_put hx hb hts hown hK hW (C := RX2) (T := TX2) (xF_lamp r hr i hi) inlX2 tyX2 tyX2_ok nmX2 rfl (by decide) 5 (by decide) (xr_lamp r hr i hi 5 (by decide)) xw_116 rfl rfl rfl rfl xSt2f dX2_becomes_26 (fun H locs hW => ?_)
    obtain rfl : (va_up (va_up (va_up (va_up ℓ 3 how) 2 0) 4 0) 5 (-6)) = ℓ' := by rw [← ho0]; simp [Fbecomes, c_1]
    rw [hQ0]
    exact x_vret hx hb hret hlocks hW rfl dX2_becomes_29
set_option maxHeartbeats 4000000 in
set_option maxRecDepth 100000 in
theorem c_X2_tell (l : Launch) (X : xX) (G : xG) {r i : Nat} {f sg : Nat → Int32} {L O Y P Q : Nat → Nat → Int32} {ℓ : Nat → Int32} {x : Int32} (hr : r < 11) (hi : i < 16) {res : Int32} (hres : Ftell ℓ x = res) : XC l yX2_tell cX2_tell 2 (some .int) 0 0 0 0 X xsh [.ref (xB X + xkey r 2 i), .int x] 603 603 (xval (xB X) (va_up G r (xSt f sg (va_up L i ℓ) O Y P Q))) (xval (xB X) (va_up G r (xSt f sg (va_up L i ℓ) O Y P Q))) (some (.int res)) := by
  refine XC.of RX2 "tell" [(0, .ref (xB X + xkey r 2 i)), (1, .int x)] (by decide) rfl rfl (Nat.le_of_ble_eq_true rfl) rfl ?_
  intro p e s m args below meth c ls hx hb hret hml hts hown hlocks hnm hK hW hl
  have hW : XR X G r (xSt f sg (va_up L i ℓ) O Y P Q) s.heap [] := hW
  obtain ⟨Q0, hQ0⟩ : ∃ z, z = MQ below (xQ X xsh 603 (xval (xB X) (va_up G r (xSt f sg (va_up L i ℓ) O Y P Q))) (some (.int res))) args s 0 0 (fun q => xB X ≤ q) := ⟨_, rfl⟩
  rw [← hQ0]
  refine lv_iload_n hx hb dX2_tell_0 rfl (lv_at hl 1 rfl) ?_
  by_cases c_1 : x = 0
  · skip
    refine lv_tableIn (off := 59) (tgt := 60) hx hb dX2_tell_1 (by rw [c_1]; decide) (by rw [c_1]; decide) (by rw [c_1]; decide) (by decide) ?_
    refine lv_aload_n hx hb dX2_tell_60 rfl (lv_at hl 0 rfl) ?_
    refine r_get hx hb hts hown hK hW (C := RX2) (T := TX2) (xF_lamp r hr i hi) inlX2 rfl (by decide) 0 (by decide) (xr_lamp r hr i hi 0 (by decide)) xw_111 rfl (x := ℓ 0) (show (va_up L i ℓ) i 0 = ℓ 0 from xrd rfl) dX2_tell_61 ?_
    obtain rfl : ℓ 0 = res := by rw [← hres]; simp [Ftell, c_1]
    rw [hQ0]
    exact x_iret hx hb hret hlocks rfl hW rfl dX2_tell_64
  · skip
    by_cases c_2 : x = 1
    · skip
      refine lv_tableIn (off := 64) (tgt := 65) hx hb dX2_tell_1 (by rw [c_2]; decide) (by rw [c_2]; decide) (by rw [c_2]; decide) (by decide) ?_
      refine lv_aload_n hx hb dX2_tell_65 rfl (lv_at hl 0 rfl) ?_
      refine r_get hx hb hts hown hK hW (C := RX2) (T := TX2) (xF_lamp r hr i hi) inlX2 rfl (by decide) 1 (by decide) (xr_lamp r hr i hi 1 (by decide)) xw_112 rfl (x := ℓ 1) (show (va_up L i ℓ) i 1 = ℓ 1 from xrd rfl) dX2_tell_66 ?_
      obtain rfl : ℓ 1 = res := by rw [← hres]; simp [Ftell, c_1, c_2]
      rw [hQ0]
      exact x_iret hx hb hret hlocks rfl hW rfl dX2_tell_69
    · skip
      by_cases c_3 : x = 2
      · skip
        refine lv_tableIn (off := 69) (tgt := 70) hx hb dX2_tell_1 (by rw [c_3]; decide) (by rw [c_3]; decide) (by rw [c_3]; decide) (by decide) ?_
        refine lv_aload_n hx hb dX2_tell_70 rfl (lv_at hl 0 rfl) ?_
        refine r_get hx hb hts hown hK hW (C := RX2) (T := TX2) (xF_lamp r hr i hi) inlX2 rfl (by decide) 2 (by decide) (xr_lamp r hr i hi 2 (by decide)) xw_113 rfl (x := ℓ 2) (show (va_up L i ℓ) i 2 = ℓ 2 from xrd rfl) dX2_tell_71 ?_
        obtain rfl : ℓ 2 = res := by rw [← hres]; simp [Ftell, c_1, c_2, c_3]
        rw [hQ0]
        exact x_iret hx hb hret hlocks rfl hW rfl dX2_tell_74
      · skip
        by_cases c_4 : x = 3
        · skip
          refine lv_tableIn (off := 74) (tgt := 75) hx hb dX2_tell_1 (by rw [c_4]; decide) (by rw [c_4]; decide) (by rw [c_4]; decide) (by decide) ?_
          refine lv_aload_n hx hb dX2_tell_75 rfl (lv_at hl 0 rfl) ?_
          refine r_get hx hb hts hown hK hW (C := RX2) (T := TX2) (xF_lamp r hr i hi) inlX2 rfl (by decide) 3 (by decide) (xr_lamp r hr i hi 3 (by decide)) xw_114 rfl (x := ℓ 3) (show (va_up L i ℓ) i 3 = ℓ 3 from xrd rfl) dX2_tell_76 ?_
          obtain rfl : ℓ 3 = res := by rw [← hres]; simp [Ftell, c_1, c_2, c_3, c_4]
          rw [hQ0]
          exact x_iret hx hb hret hlocks rfl hW rfl dX2_tell_79
        · skip
          by_cases c_5 : x = 4
          · skip
            refine lv_tableIn (off := 79) (tgt := 80) hx hb dX2_tell_1 (by rw [c_5]; decide) (by rw [c_5]; decide) (by rw [c_5]; decide) (by decide) ?_
            refine lv_aload_n hx hb dX2_tell_80 rfl (lv_at hl 0 rfl) ?_
            refine r_get hx hb hts hown hK hW (C := RX2) (T := TX2) (xF_lamp r hr i hi) inlX2 rfl (by decide) 4 (by decide) (xr_lamp r hr i hi 4 (by decide)) xw_115 rfl (x := ℓ 4) (show (va_up L i ℓ) i 4 = ℓ 4 from xrd rfl) dX2_tell_81 ?_
            obtain rfl : ℓ 4 = res := by rw [← hres]; simp [Ftell, c_1, c_2, c_3, c_4, c_5]
            rw [hQ0]
            exact x_iret hx hb hret hlocks rfl hW rfl dX2_tell_84
          · skip
            by_cases c_6 : x = 5
            · skip
              refine lv_tableIn (off := 84) (tgt := 85) hx hb dX2_tell_1 (by rw [c_6]; decide) (by rw [c_6]; decide) (by rw [c_6]; decide) (by decide) ?_
              refine lv_aload_n hx hb dX2_tell_85 rfl (lv_at hl 0 rfl) ?_
              refine r_get hx hb hts hown hK hW (C := RX2) (T := TX2) (xF_lamp r hr i hi) inlX2 rfl (by decide) 5 (by decide) (xr_lamp r hr i hi 5 (by decide)) xw_116 rfl (x := ℓ 5) (show (va_up L i ℓ) i 5 = ℓ 5 from xrd rfl) dX2_tell_86 ?_
              obtain rfl : ℓ 5 = res := by rw [← hres]; simp [Ftell, c_1, c_2, c_3, c_4, c_5, c_6]
              rw [hQ0]
              exact x_iret hx hb hret hlocks rfl hW rfl dX2_tell_89
            · skip
              by_cases c_7 : x = 6
              · skip
                refine lv_tableIn (off := 89) (tgt := 90) hx hb dX2_tell_1 (by rw [c_7]; decide) (by rw [c_7]; decide) (by rw [c_7]; decide) (by decide) ?_
                refine lv_aload_n hx hb dX2_tell_90 rfl (lv_at hl 0 rfl) ?_
                refine r_get hx hb hts hown hK hW (C := RX2) (T := TX2) (xF_lamp r hr i hi) inlX2 rfl (by decide) 5 (by decide) (xr_lamp r hr i hi 5 (by decide)) xw_116 rfl (x := ℓ 5) (show (va_up L i ℓ) i 5 = ℓ 5 from xrd rfl) dX2_tell_91 ?_
                refine lv_bipush (v := (-6)) hx hb dX2_tell_94 (by decide) ?_
                refine lv_icmp_ne (tgt := 104) hx hb dX2_tell_96 (by decide) (fun c_8 => ?_) (fun c_8 => ?_)
                · skip
                  refine lv_aload_n hx hb dX2_tell_104 rfl (lv_at hl 0 rfl) ?_
                  refine r_get hx hb hts hown hK hW (C := RX2) (T := TX2) (xF_lamp r hr i hi) inlX2 rfl (by decide) 6 (by decide) (xr_lamp r hr i hi 6 (by decide)) xw_117 rfl (x := ℓ 6) (show (va_up L i ℓ) i 6 = ℓ 6 from xrd rfl) dX2_tell_105 ?_
                  obtain rfl : ℓ 6 = res := by rw [← hres]; simp [Ftell, c_1, c_2, c_3, c_4, c_5, c_6, c_7, c_8]
                  rw [hQ0]
                  exact x_iret hx hb hret hlocks rfl hW rfl dX2_tell_108
                · skip
                  refine lv_bipush (v := (-6)) hx hb dX2_tell_99 (by decide) ?_
                  refine lv_goto (tgt := 108) hx hb dX2_tell_101 (by decide) ?_
                  obtain rfl : (-6) = res := by rw [← hres]; simp [Ftell, c_1, c_2, c_3, c_4, c_5, c_6, c_7, c_8]
                  rw [hQ0]
                  exact x_iret hx hb hret hlocks rfl hW rfl dX2_tell_108
              · skip
                by_cases c_9 : x = 7
                · skip
                  refine lv_tableIn (off := 108) (tgt := 109) hx hb dX2_tell_1 (by rw [c_9]; decide) (by rw [c_9]; decide) (by rw [c_9]; decide) (by decide) ?_
                  refine lv_aload_n hx hb dX2_tell_109 rfl (lv_at hl 0 rfl) ?_
                  refine r_get hx hb hts hown hK hW (C := RX2) (T := TX2) (xF_lamp r hr i hi) inlX2 rfl (by decide) 7 (by decide) (xr_lamp r hr i hi 7 (by decide)) xw_118 rfl (x := ℓ 7) (show (va_up L i ℓ) i 7 = ℓ 7 from xrd rfl) dX2_tell_110 ?_
                  obtain rfl : ℓ 7 = res := by rw [← hres]; simp [Ftell, c_1, c_2, c_3, c_4, c_5, c_6, c_7, c_9]
                  rw [hQ0]
                  exact x_iret hx hb hret hlocks rfl hW rfl dX2_tell_113
                · skip
                  by_cases c_10 : x = 8
                  · skip
                    refine lv_tableIn (off := 113) (tgt := 114) hx hb dX2_tell_1 (by rw [c_10]; decide) (by rw [c_10]; decide) (by rw [c_10]; decide) (by decide) ?_
                    refine lv_aload_n hx hb dX2_tell_114 rfl (lv_at hl 0 rfl) ?_
                    refine r_get hx hb hts hown hK hW (C := RX2) (T := TX2) (xF_lamp r hr i hi) inlX2 rfl (by decide) 8 (by decide) (xr_lamp r hr i hi 8 (by decide)) xw_119 rfl (x := ℓ 8) (show (va_up L i ℓ) i 8 = ℓ 8 from xrd rfl) dX2_tell_115 ?_
                    obtain rfl : ℓ 8 = res := by rw [← hres]; simp [Ftell, c_1, c_2, c_3, c_4, c_5, c_6, c_7, c_9, c_10]
                    rw [hQ0]
                    exact x_iret hx hb hret hlocks rfl hW rfl dX2_tell_118
                  · skip
                    by_cases c_11 : x = 9
                    · skip
                      refine lv_tableIn (off := 118) (tgt := 119) hx hb dX2_tell_1 (by rw [c_11]; decide) (by rw [c_11]; decide) (by rw [c_11]; decide) (by decide) ?_
                      refine lv_aload_n hx hb dX2_tell_119 rfl (lv_at hl 0 rfl) ?_
                      refine r_get hx hb hts hown hK hW (C := RX2) (T := TX2) (xF_lamp r hr i hi) inlX2 rfl (by decide) 9 (by decide) (xr_lamp r hr i hi 9 (by decide)) xw_120 rfl (x := ℓ 9) (show (va_up L i ℓ) i 9 = ℓ 9 from xrd rfl) dX2_tell_120 ?_
                      obtain rfl : ℓ 9 = res := by rw [← hres]; simp [Ftell, c_1, c_2, c_3, c_4, c_5, c_6, c_7, c_9, c_10, c_11]
                      rw [hQ0]
                      exact x_iret hx hb hret hlocks rfl hW rfl dX2_tell_123
                    · skip
                      by_cases c_12 : x = 10
                      · skip
                        refine lv_tableIn (off := 123) (tgt := 124) hx hb dX2_tell_1 (by rw [c_12]; decide) (by rw [c_12]; decide) (by rw [c_12]; decide) (by decide) ?_
                        refine lv_aload_n hx hb dX2_tell_124 rfl (lv_at hl 0 rfl) ?_
                        refine r_get hx hb hts hown hK hW (C := RX2) (T := TX2) (xF_lamp r hr i hi) inlX2 rfl (by decide) 10 (by decide) (xr_lamp r hr i hi 10 (by decide)) xw_121 rfl (x := ℓ 10) (show (va_up L i ℓ) i 10 = ℓ 10 from xrd rfl) dX2_tell_125 ?_
                        obtain rfl : ℓ 10 = res := by rw [← hres]; simp [Ftell, c_1, c_2, c_3, c_4, c_5, c_6, c_7, c_9, c_10, c_11, c_12]
                        rw [hQ0]
                        exact x_iret hx hb hret hlocks rfl hW rfl dX2_tell_128
                      · skip
                        refine lv_tableOut (x := x) (tgt := 129) hx hb dX2_tell_1 (x_tabout (x := x) (lo := 0) (hi := 10) (fun z h1 h2 => (fun h => h.elim (fun h => by rw [h]; exact x_nt c_1 (by decide)) (fun h => h.elim (fun h => by rw [h]; exact x_nt c_2 (by decide)) (fun h => h.elim (fun h => by rw [h]; exact x_nt c_3 (by decide)) (fun h => h.elim (fun h => by rw [h]; exact x_nt c_4 (by decide)) (fun h => h.elim (fun h => by rw [h]; exact x_nt c_5 (by decide)) (fun h => h.elim (fun h => by rw [h]; exact x_nt c_6 (by decide)) (fun h => h.elim (fun h => by rw [h]; exact x_nt c_7 (by decide)) (fun h => h.elim (fun h => by rw [h]; exact x_nt c_9 (by decide)) (fun h => h.elim (fun h => by rw [h]; exact x_nt c_10 (by decide)) (fun h => h.elim (fun h => by rw [h]; exact x_nt c_11 (by decide)) (fun h => by rw [h]; exact x_nt c_12 (by decide)))))))))))) (show z = 0 ∨ z = 1 ∨ z = 2 ∨ z = 3 ∨ z = 4 ∨ z = 5 ∨ z = 6 ∨ z = 7 ∨ z = 8 ∨ z = 9 ∨ z = 10 by omega))) (by decide) ?_
                        refine lv_bipush (v := (-2)) hx hb dX2_tell_129 (by decide) ?_
                        obtain rfl : (-2) = res := by rw [← hres]; simp [Ftell, c_1, c_2, c_3, c_4, c_5, c_6, c_7, c_9, c_10, c_11, c_12]
                        rw [hQ0]
                        exact x_iret hx hb hret hlocks rfl hW rfl dX2_tell_131
set_option maxHeartbeats 4000000 in
set_option maxRecDepth 100000 in
theorem c_X2_place (l : Launch) (X : xX) (G : xG) {r i : Nat} {f sg : Nat → Int32} {L O Y P Q : Nat → Nat → Int32} {ℓ : Nat → Int32} {a b : Int32} (hr : r < 11) (hi : i < 16) {ℓ' : Nat → Int32} (ho0 : Fplace a b ℓ = ℓ') : XC l yX2_place cX2_place 3 none 0 0 0 0 X xsh [.ref (xB X + xkey r 2 i), .int a, .int b] 603 603 (xval (xB X) (va_up G r (xSt f sg (va_up L i ℓ) O Y P Q))) (xval (xB X) (va_up G r (xSt f sg (va_up L i ℓ') O Y P Q))) none := by
  refine XC.of RX2 "place" [(0, .ref (xB X + xkey r 2 i)), (1, .int a), (2, .int b)] (by decide) rfl rfl (Nat.le_of_ble_eq_true rfl) rfl ?_
  intro p e s m args below meth c ls hx hb hret hml hts hown hlocks hnm hK hW hl
  have hW : XR X G r (xSt f sg (va_up L i ℓ) O Y P Q) s.heap [] := hW
  obtain ⟨Q0, hQ0⟩ : ∃ z, z = MQ below (xQ X xsh 603 (xval (xB X) (va_up G r (xSt f sg (va_up L i ℓ') O Y P Q))) none) args s 0 0 (fun q => xB X ≤ q) := ⟨_, rfl⟩
  rw [← hQ0]
  refine lv_aload_n hx hb dX2_place_0 rfl (lv_at hl 0 rfl) ?_
  refine lv_iload_n hx hb dX2_place_1 rfl (lv_at hl 1 rfl) ?_
  refine r_put hx hb hts hown hK hW (C := RX2) (T := TX2) (xF_lamp r hr i hi) inlX2 tyX2 tyX2_ok nmX2 rfl (by decide) 0 (by decide) (xr_lamp r hr i hi 0 (by decide)) xw_111 rfl rfl rfl rfl xSt2f dX2_place_2 (fun H locs hW => ?_)
  refine lv_aload_n hx hb dX2_place_5 rfl (lv_at hl 0 rfl) ?_
  refine lv_iload_n hx hb dX2_place_6 rfl (lv_at hl 2 rfl) ?_
  refine r_put hx hb hts hown hK hW (C := RX2) (T := TX2) (xF_lamp r hr i hi) inlX2 tyX2 tyX2_ok nmX2 rfl (by decide) 1 (by decide) (xr_lamp r hr i hi 1 (by decide)) xw_112 rfl rfl rfl rfl xSt2f dX2_place_7 (fun H locs hW => ?_)
  refine lv_aload_n hx hb dX2_place_10 rfl (lv_at hl 0 rfl) ?_
  refine lv_iconst (v := 0) hx hb dX2_place_11 (by decide) ?_
  refine r_put hx hb hts hown hK hW (C := RX2) (T := TX2) (xF_lamp r hr i hi) inlX2 tyX2 tyX2_ok nmX2 rfl (by decide) 2 (by decide) (xr_lamp r hr i hi 2 (by decide)) xw_113 rfl rfl rfl rfl xSt2f dX2_place_12 (fun H locs hW => ?_)
  refine lv_aload_n hx hb dX2_place_15 rfl (lv_at hl 0 rfl) ?_
  refine lv_iconst (v := 0) hx hb dX2_place_16 (by decide) ?_
  refine r_put hx hb hts hown hK hW (C := RX2) (T := TX2) (xF_lamp r hr i hi) inlX2 tyX2 tyX2_ok nmX2 rfl (by decide) 3 (by decide) (xr_lamp r hr i hi 3 (by decide)) xw_114 rfl rfl rfl rfl xSt2f dX2_place_17 (fun H locs hW => ?_)
  refine lv_aload_n hx hb dX2_place_20 rfl (lv_at hl 0 rfl) ?_
  refine lv_iconst (v := 0) hx hb dX2_place_21 (by decide) ?_
  refine r_put hx hb hts hown hK hW (C := RX2) (T := TX2) (xF_lamp r hr i hi) inlX2 tyX2 tyX2_ok nmX2 rfl (by decide) 4 (by decide) (xr_lamp r hr i hi 4 (by decide)) xw_115 rfl rfl rfl rfl xSt2f dX2_place_22 (fun H locs hW => ?_)
  refine lv_aload_n hx hb dX2_place_25 rfl (lv_at hl 0 rfl) ?_
  refine lv_bipush (v := (-6)) hx hb dX2_place_26 (by decide) ?_
  refine r_put hx hb hts hown hK hW (C := RX2) (T := TX2) (xF_lamp r hr i hi) inlX2 tyX2 tyX2_ok nmX2 rfl (by decide) 5 (by decide) (xr_lamp r hr i hi 5 (by decide)) xw_116 rfl rfl rfl rfl xSt2f dX2_place_28 (fun H locs hW => ?_)
  refine lv_aload_n hx hb dX2_place_31 rfl (lv_at hl 0 rfl) ?_
  refine lv_iconst (v := 0) hx hb dX2_place_32 (by decide) ?_
  refine r_put hx hb hts hown hK hW (C := RX2) (T := TX2) (xF_lamp r hr i hi) inlX2 tyX2 tyX2_ok nmX2 rfl (by decide) 6 (by decide) (xr_lamp r hr i hi 6 (by decide)) xw_117 rfl rfl rfl rfl xSt2f dX2_place_33 (fun H locs hW => ?_)
  refine lv_aload_n hx hb dX2_place_36 rfl (lv_at hl 0 rfl) ?_
  refine lv_iconst (v := 0) hx hb dX2_place_37 (by decide) ?_
  refine r_put hx hb hts hown hK hW (C := RX2) (T := TX2) (xF_lamp r hr i hi) inlX2 tyX2 tyX2_ok nmX2 rfl (by decide) 7 (by decide) (xr_lamp r hr i hi 7 (by decide)) xw_118 rfl rfl rfl rfl xSt2f dX2_place_38 (fun H locs hW => ?_)
  refine lv_aload_n hx hb dX2_place_41 rfl (lv_at hl 0 rfl) ?_
  refine lv_iconst (v := 0) hx hb dX2_place_42 (by decide) ?_
  refine r_put hx hb hts hown hK hW (C := RX2) (T := TX2) (xF_lamp r hr i hi) inlX2 tyX2 tyX2_ok nmX2 rfl (by decide) 8 (by decide) (xr_lamp r hr i hi 8 (by decide)) xw_119 rfl rfl rfl rfl xSt2f dX2_place_43 (fun H locs hW => ?_)
  refine lv_aload_n hx hb dX2_place_46 rfl (lv_at hl 0 rfl) ?_
  refine lv_iconst (v := 0) hx hb dX2_place_47 (by decide) ?_
  refine r_put hx hb hts hown hK hW (C := RX2) (T := TX2) (xF_lamp r hr i hi) inlX2 tyX2 tyX2_ok nmX2 rfl (by decide) 9 (by decide) (xr_lamp r hr i hi 9 (by decide)) xw_120 rfl rfl rfl rfl xSt2f dX2_place_48 (fun H locs hW => ?_)
  refine lv_aload_n hx hb dX2_place_51 rfl (lv_at hl 0 rfl) ?_
  refine lv_iconst (v := 0) hx hb dX2_place_52 (by decide) ?_
  refine r_put hx hb hts hown hK hW (C := RX2) (T := TX2) (xF_lamp r hr i hi) inlX2 tyX2 tyX2_ok nmX2 rfl (by decide) 10 (by decide) (xr_lamp r hr i hi 10 (by decide)) xw_121 rfl rfl rfl rfl xSt2f dX2_place_53 (fun H locs hW => ?_)
  obtain rfl : (va_up (va_up (va_up (va_up (va_up (va_up (va_up (va_up (va_up (va_up (va_up ℓ 0 a) 1 b) 2 0) 3 0) 4 0) 5 (-6)) 6 0) 7 0) 8 0) 9 0) 10 0) = ℓ' := by rw [← ho0]; simp [Fplace]
  rw [hQ0]
  exact x_vret hx hb hret hlocks hW rfl dX2_place_56
end
section
/-! ===== what a walker's methods do to its rows (ω fields, γ steps, π pauses of the goals), a house's to its own ===== -/
def FfinW (ω : Nat → Int32) : Nat → Int32 := va_up (va_up (va_up ω 6 (-6)) 2 (ω 2 - 1)) 5 (if ω 2 - 1 = 0 then 1 else 0)
def Fshift (γ : Nat → Int32) : Nat → Int32 := va_cpy γ γ 1 0 5
def FarrW (ω π : Nat → Int32) : Nat → Int32 := if 0 < π 0 then va_up ω 6 0 else FfinW ω
def FarrP (π γ : Nat → Int32) : Nat → Int32 := if 0 < π 0 then γ else Fshift γ
def Fstep (ω γ : Nat → Int32) : Int32 := xmax (-(ω 4)) (xmin (ω 4) (γ 0 - ω 3))
def Fgone (ω γ : Nat → Int32) : Nat → Int32 := va_up (va_up ω 3 (ω 3 + Fstep ω γ)) 8 (ω 8 + xabs (Fstep ω γ))
def FgoW (ω γ π : Nat → Int32) : Nat → Int32 := if ω 2 = 0 then ω else if ¬ ω 6 = -6 then (if π 0 ≤ ω 6 + 1 then FfinW (va_up ω 6 (ω 6 + 1)) else va_up ω 6 (ω 6 + 1)) else if Fstep ω γ = γ 0 - ω 3 then FarrW (Fgone ω γ) π else Fgone ω γ
def FgoP (ω γ π ρ : Nat → Int32) : Nat → Int32 := if ω 2 = 0 then ρ else if ¬ ω 6 = -6 then (if π 0 ≤ ω 6 + 1 then Fshift ρ else ρ) else if Fstep ω γ = γ 0 - ω 3 then FarrP π ρ else ρ
def FplaceW (a b : Int32) (ω : Nat → Int32) : Nat → Int32 := va_up (va_up (va_up (va_up (va_up (va_up (va_up ω 2 0) 3 a) 4 b) 5 0) 6 (-6)) 7 0) 8 0
def FaddR (ω : Nat → Int32) : Int32 := if 6 ≤ ω 2 then -4 else if ¬ ω 5 = 0 then -5 else ω 2 + 1
def FaddW (ω : Nat → Int32) : Nat → Int32 := if 6 ≤ ω 2 then ω else if ¬ ω 5 = 0 then ω else va_up ω 2 (ω 2 + 1)
def FaddP (g : Nat) (a : Int32) (ω γ : Nat → Int32) : Nat → Int32 := if 6 ≤ ω 2 then γ else if ¬ ω 5 = 0 then γ else va_up γ g a
theorem xg6 {g : Nat} {x : Int32} (hg : x = nI g) (hg6 : g ≤ 6) (c : x < (6 : Int32)) : g < 6 := by
  rcases Nat.lt_or_ge g 6 with h | h
  · exact h
  · have : g = 6 := by omega
    subst this
    rw [hg] at c
    exact absurd c (by decide)
theorem hdV_yX5_place : yX5_place.cls = RX5 ∧ yX5_place.cls ≠ "java/lang/invoke/MethodHandle" ∧ yX5_place.cls ≠ "java/lang/invoke/VarHandle" ∧ (parseMethodDescriptor yX5_place.desc).map (fun d => d.parameters.length) = some 2 := by decide +kernel
theorem hdV_yX5_finishGoal : yX5_finishGoal.cls = RX5 ∧ yX5_finishGoal.cls ≠ "java/lang/invoke/MethodHandle" ∧ yX5_finishGoal.cls ≠ "java/lang/invoke/VarHandle" ∧ (parseMethodDescriptor yX5_finishGoal.desc).map (fun d => d.parameters.length) = some 0 := by decide +kernel
theorem hdV_yX5_arrive : yX5_arrive.cls = RX5 ∧ yX5_arrive.cls ≠ "java/lang/invoke/MethodHandle" ∧ yX5_arrive.cls ≠ "java/lang/invoke/VarHandle" ∧ (parseMethodDescriptor yX5_arrive.desc).map (fun d => d.parameters.length) = some 0 := by decide +kernel
theorem hdV_yX5_go : yX5_go.cls = RX5 ∧ yX5_go.cls ≠ "java/lang/invoke/MethodHandle" ∧ yX5_go.cls ≠ "java/lang/invoke/VarHandle" ∧ (parseMethodDescriptor yX5_go.desc).map (fun d => d.parameters.length) = some 0 := by decide +kernel
theorem hdV_yX5_addGoal : yX5_addGoal.cls = RX5 ∧ yX5_addGoal.cls ≠ "java/lang/invoke/MethodHandle" ∧ yX5_addGoal.cls ≠ "java/lang/invoke/VarHandle" ∧ (parseMethodDescriptor yX5_addGoal.desc).map (fun d => d.parameters.length) = some 2 := by decide +kernel
theorem hdV_yX1_place : yX1_place.cls = RX1 ∧ yX1_place.cls ≠ "java/lang/invoke/MethodHandle" ∧ yX1_place.cls ≠ "java/lang/invoke/VarHandle" ∧ (parseMethodDescriptor yX1_place.desc).map (fun d => d.parameters.length) = some 1 := by decide +kernel
set_option maxHeartbeats 4000000 in
set_option maxRecDepth 100000 in
theorem c_X5_place (l : Launch) (X : xX) (G : xG) {r i : Nat} {f sg : Nat → Int32} {L O Y P Q : Nat → Nat → Int32} {ω γ π : Nat → Int32} {a b : Int32} (hr : r < 11) (hi : i < 8) {ω' : Nat → Int32} (ho0 : FplaceW a b ω = ω') : XC l yX5_place cX5_place 3 none 0 0 0 0 X xsh [.ref (xB X + xkey r 4 i), .int a, .int b] 603 603 (xval (xB X) (va_up G r (xSt f sg L O (va_up Y i ω) (va_up P i γ) (va_up Q i π)))) (xval (xB X) (va_up G r (xSt f sg L O (va_up Y i ω') (va_up P i γ) (va_up Q i π)))) none := by
  refine XC.of RX5 "place" [(0, .ref (xB X + xkey r 4 i)), (1, .int a), (2, .int b)] (by decide) rfl rfl (Nat.le_of_ble_eq_true rfl) rfl ?_
  intro p e s m args below meth c ls hx hb hret hml hts hown hlocks hnm hK hW hl
  have hW : XR X G r (xSt f sg L O (va_up Y i ω) (va_up P i γ) (va_up Q i π)) s.heap [] := hW
  obtain ⟨Q0, hQ0⟩ : ∃ z, z = MQ below (xQ X xsh 603 (xval (xB X) (va_up G r (xSt f sg L O (va_up Y i ω') (va_up P i γ) (va_up Q i π)))) none) args s 0 0 (fun q => xB X ≤ q) := ⟨_, rfl⟩
  rw [← hQ0]
  refine lv_aload_n hx hb dX5_place_0 rfl (lv_at hl 0 rfl) ?_
  refine lv_iconst (v := 0) hx hb dX5_place_1 (by decide) ?_
  refine r_put hx hb hts hown hK hW (C := RX5) (T := TX5) (xF_walker r hr i hi) inlX5 tyX5 tyX5_ok nmX5 rfl (by decide) 2 (by decide) ((xr_walker r hr i hi).2.2 2 (by decide) (by decide)) xw_133 rfl rfl rfl rfl xSt4f dX5_place_2 (fun H locs hW => ?_)
  refine lv_aload_n hx hb dX5_place_5 rfl (lv_at hl 0 rfl) ?_
  refine lv_iload_n hx hb dX5_place_6 rfl (lv_at hl 1 rfl) ?_
  refine r_put hx hb hts hown hK hW (C := RX5) (T := TX5) (xF_walker r hr i hi) inlX5 tyX5 tyX5_ok nmX5 rfl (by decide) 3 (by decide) ((xr_walker r hr i hi).2.2 3 (by decide) (by decide)) xw_134 rfl rfl rfl rfl xSt4f dX5_place_7 (fun H locs hW => ?_)
  refine lv_aload_n hx hb dX5_place_10 rfl (lv_at hl 0 rfl) ?_
  refine lv_iload_n hx hb dX5_place_11 rfl (lv_at hl 2 rfl) ?_
  refine r_put hx hb hts hown hK hW (C := RX5) (T := TX5) (xF_walker r hr i hi) inlX5 tyX5 tyX5_ok nmX5 rfl (by decide) 4 (by decide) ((xr_walker r hr i hi).2.2 4 (by decide) (by decide)) xw_135 rfl rfl rfl rfl xSt4f dX5_place_12 (fun H locs hW => ?_)
  refine lv_aload_n hx hb dX5_place_15 rfl (lv_at hl 0 rfl) ?_
  refine lv_iconst (v := 0) hx hb dX5_place_16 (by decide) ?_
  refine r_put hx hb hts hown hK hW (C := RX5) (T := TX5) (xF_walker r hr i hi) inlX5 tyX5 tyX5_ok nmX5 rfl (by decide) 5 (by decide) ((xr_walker r hr i hi).2.2 5 (by decide) (by decide)) xw_136 rfl rfl rfl rfl xSt4f dX5_place_17 (fun H locs hW => ?_)
  refine lv_aload_n hx hb dX5_place_20 rfl (lv_at hl 0 rfl) ?_
  refine lv_bipush (v := (-6)) hx hb dX5_place_21 (by decide) ?_
  refine r_put hx hb hts hown hK hW (C := RX5) (T := TX5) (xF_walker r hr i hi) inlX5 tyX5 tyX5_ok nmX5 rfl (by decide) 6 (by decide) ((xr_walker r hr i hi).2.2 6 (by decide) (by decide)) xw_137 rfl rfl rfl rfl xSt4f dX5_place_23 (fun H locs hW => ?_)
  refine lv_aload_n hx hb dX5_place_26 rfl (lv_at hl 0 rfl) ?_
  refine lv_iconst (v := 0) hx hb dX5_place_27 (by decide) ?_
  refine r_put hx hb hts hown hK hW (C := RX5) (T := TX5) (xF_walker r hr i hi) inlX5 tyX5 tyX5_ok nmX5 rfl (by decide) 7 (by decide) ((xr_walker r hr i hi).2.2 7 (by decide) (by decide)) xw_138 rfl rfl rfl rfl xSt4f dX5_place_28 (fun H locs hW => ?_)
  refine lv_aload_n hx hb dX5_place_31 rfl (lv_at hl 0 rfl) ?_
  refine lv_iconst (v := 0) hx hb dX5_place_32 (by decide) ?_
  refine r_put hx hb hts hown hK hW (C := RX5) (T := TX5) (xF_walker r hr i hi) inlX5 tyX5 tyX5_ok nmX5 rfl (by decide) 8 (by decide) ((xr_walker r hr i hi).2.2 8 (by decide) (by decide)) xw_139 rfl rfl rfl rfl xSt4f dX5_place_33 (fun H locs hW => ?_)
  obtain rfl : (va_up (va_up (va_up (va_up (va_up (va_up (va_up ω 2 0) 3 a) 4 b) 5 0) 6 (-6)) 7 0) 8 0) = ω' := by rw [← ho0]; simp [FplaceW]
  rw [hQ0]
  exact x_vret hx hb hret hlocks hW rfl dX5_place_36
set_option maxHeartbeats 4000000 in
set_option maxRecDepth 100000 in
theorem c_X5_finishGoal (l : Launch) (X : xX) (G : xG) {r i : Nat} {f sg : Nat → Int32} {L O Y P Q : Nat → Nat → Int32} {ω γ π : Nat → Int32}  (hr : r < 11) (hi : i < 8) {ω' : Nat → Int32} (ho0 : FfinW ω = ω') {γ' : Nat → Int32} (ho1 : Fshift γ = γ') {π' : Nat → Int32} (ho2 : Fshift π = π') : XC l yX5_finishGoal cX5_finishGoal 1 none 1 40 0 0 X xsh [.ref (xB X + xkey r 4 i)] 603 603 (xval (xB X) (va_up G r (xSt f sg L O (va_up Y i ω) (va_up P i γ) (va_up Q i π)))) (xval (xB X) (va_up G r (xSt f sg L O (va_up Y i ω') (va_up P i γ') (va_up Q i π')))) none := by
  refine XC.of RX5 "finishGoal" [(0, .ref (xB X + xkey r 4 i))] (by decide) rfl rfl (Nat.le_of_ble_eq_true rfl) rfl ?_
  intro p e s m args below meth c ls hx hb hret hml hts hown hlocks hnm hK hW hl
  have hW : XR X G r (xSt f sg L O (va_up Y i ω) (va_up P i γ) (va_up Q i π)) s.heap [] := hW
  obtain ⟨Q0, hQ0⟩ : ∃ z, z = MQ below (xQ X xsh 603 (xval (xB X) (va_up G r (xSt f sg L O (va_up Y i ω') (va_up P i γ') (va_up Q i π')))) none) args s 0 0 (fun q => xB X ≤ q) := ⟨_, rfl⟩
  rw [← hQ0]
  refine lv_aload_n hx hb dX5_finishGoal_0 rfl (lv_at hl 0 rfl) ?_
  refine lv_bipush (v := (-6)) hx hb dX5_finishGoal_1 (by decide) ?_
  refine r_put hx hb hts hown hK hW (C := RX5) (T := TX5) (xF_walker r hr i hi) inlX5 tyX5 tyX5_ok nmX5 rfl (by decide) 6 (by decide) ((xr_walker r hr i hi).2.2 6 (by decide) (by decide)) xw_137 rfl rfl rfl rfl xSt4f dX5_finishGoal_3 (fun H locs hW => ?_)
  refine lv_aload_n hx hb dX5_finishGoal_6 rfl (lv_at hl 0 rfl) ?_
  refine lv_dup hx hb dX5_finishGoal_7 rfl ?_
  refine r_get hx hb hts hown hK hW (C := RX5) (T := TX5) (xF_walker r hr i hi) inlX5 rfl (by decide) 2 (by decide) ((xr_walker r hr i hi).2.2 2 (by decide) (by decide)) xw_133 rfl (x := ω 2) (show (va_up Y i (va_up ω 6 (-6))) i 2 = ω 2 from xrd rfl) dX5_finishGoal_8 ?_
  refine lv_iconst (v := 1) hx hb dX5_finishGoal_11 (by decide) ?_
  refine lv_isub hx hb dX5_finishGoal_12 ?_
  refine r_put hx hb hts hown hK hW (C := RX5) (T := TX5) (xF_walker r hr i hi) inlX5 tyX5 tyX5_ok nmX5 rfl (by decide) 2 (by decide) ((xr_walker r hr i hi).2.2 2 (by decide) (by decide)) xw_133 rfl rfl rfl rfl xSt4f dX5_finishGoal_13 (fun H locs hW => ?_)
  refine lv_aload_n hx hb dX5_finishGoal_16 rfl (lv_at hl 0 rfl) ?_
  refine r_getr (C := RX5) (T := TX5) hx hb hts hown hK hW (xF_walker r hr i hi).1 (xF_walker r hr i hi).2.1 inlX5 rfl (by decide) 0 (by decide) (xr_walker r hr i hi).1 xw_60 rfl dX5_finishGoal_17 ?_
  refine lv_iconst (v := 1) hx hb dX5_finishGoal_20 (by decide) ?_
  refine lv_aload_n hx hb dX5_finishGoal_21 rfl (lv_at hl 0 rfl) ?_
  refine r_getr (C := RX5) (T := TX5) hx hb hts hown hK hW (xF_walker r hr i hi).1 (xF_walker r hr i hi).2.1 inlX5 rfl (by decide) 0 (by decide) (xr_walker r hr i hi).1 xw_60 rfl dX5_finishGoal_22 ?_
  refine lv_iconst (v := 0) hx hb dX5_finishGoal_25 (by decide) ?_
  refine lv_iconst (v := 5) hx hb dX5_finishGoal_26 (by decide) ?_
  refine r_copy hx hb (hml.trans hl.1.symm) hown hts xw_132 xw_42 xw_43 xw_44 hK hW (xF_gsteps r hr i hi) (xF_gsteps r hr i hi) (fun w hw => (xr_gsteps r hr i hi w hw)) (fun w hw => (xr_gsteps r hr i hi w hw)) 1 0 5 (by decide) (by decide) (by decide) ⟨by decide, by decide⟩ (by decide) (by decide) (Nat.le_of_ble_eq_true rfl) (Nat.le_of_ble_eq_true rfl) dX5_finishGoal_27 (fun H locs hW => ?_)
  have hW : XR X G r (xSt f sg L O (va_up Y i (va_up (va_up ω 6 (-6)) 2 ((ω 2) - 1))) (va_up P i (va_cpy γ γ 1 0 5)) (va_up Q i π)) H locs := by have h := hW; simp only [xcpS, xrow5, xat5] at h; exact h
  refine lv_aload_n hx hb dX5_finishGoal_30 rfl (lv_at hl 0 rfl) ?_
  refine r_getr (C := RX5) (T := TX5) hx hb hts hown hK hW (xF_walker r hr i hi).1 (xF_walker r hr i hi).2.1 inlX5 rfl (by decide) 1 (by decide) (xr_walker r hr i hi).2.1 xw_61 rfl dX5_finishGoal_31 ?_
  refine lv_iconst (v := 1) hx hb dX5_finishGoal_34 (by decide) ?_
  refine lv_aload_n hx hb dX5_finishGoal_35 rfl (lv_at hl 0 rfl) ?_
  refine r_getr (C := RX5) (T := TX5) hx hb hts hown hK hW (xF_walker r hr i hi).1 (xF_walker r hr i hi).2.1 inlX5 rfl (by decide) 1 (by decide) (xr_walker r hr i hi).2.1 xw_61 rfl dX5_finishGoal_36 ?_
  refine lv_iconst (v := 0) hx hb dX5_finishGoal_39 (by decide) ?_
  refine lv_iconst (v := 5) hx hb dX5_finishGoal_40 (by decide) ?_
  refine r_copy hx hb (hml.trans hl.1.symm) hown hts xw_132 xw_42 xw_43 xw_44 hK hW (xF_gpauses r hr i hi) (xF_gpauses r hr i hi) (fun w hw => (xr_gpauses r hr i hi w hw)) (fun w hw => (xr_gpauses r hr i hi w hw)) 1 0 5 (by decide) (by decide) (by decide) ⟨by decide, by decide⟩ (by decide) (by decide) (Nat.le_of_ble_eq_true rfl) (Nat.le_of_ble_eq_true rfl) dX5_finishGoal_41 (fun H locs hW => ?_)
  have hW : XR X G r (xSt f sg L O (va_up Y i (va_up (va_up ω 6 (-6)) 2 ((ω 2) - 1))) (va_up P i (va_cpy γ γ 1 0 5)) (va_up Q i (va_cpy π π 1 0 5))) H locs := by have h := hW; simp only [xcpS, xrow6, xat6] at h; exact h
  refine lv_aload_n hx hb dX5_finishGoal_44 rfl (lv_at hl 0 rfl) ?_
  refine lv_aload_n hx hb dX5_finishGoal_45 rfl (lv_at hl 0 rfl) ?_
  refine r_get hx hb hts hown hK hW (C := RX5) (T := TX5) (xF_walker r hr i hi) inlX5 rfl (by decide) 2 (by decide) ((xr_walker r hr i hi).2.2 2 (by decide) (by decide)) xw_133 rfl (x := (ω 2) - 1) (show (va_up Y i (va_up (va_up ω 6 (-6)) 2 ((ω 2) - 1))) i 2 = (ω 2) - 1 from xrd rfl) dX5_finishGoal_46 ?_
  refine lv_if_ne (tgt := 56) hx hb dX5_finishGoal_49 (by decide) (fun c_1 => ?_) (fun c_1 => ?_)
  · skip
    refine lv_iconst (v := 0) hx hb dX5_finishGoal_56 (by decide) ?_
    refine r_put hx hb hts hown hK hW (C := RX5) (T := TX5) (xF_walker r hr i hi) inlX5 tyX5 tyX5_ok nmX5 rfl (by decide) 5 (by decide) ((xr_walker r hr i hi).2.2 5 (by decide) (by decide)) xw_136 rfl rfl rfl rfl xSt4f dX5_finishGoal_57 (fun H locs hW => ?_)
    obtain rfl : (va_up (va_up (va_up ω 6 (-6)) 2 ((ω 2) - 1)) 5 0) = ω' := by rw [← ho0]; simp [FfinW, Fshift, c_1]
    obtain rfl : (va_cpy γ γ 1 0 5) = γ' := by rw [← ho1]; simp [FfinW, Fshift, c_1]
    obtain rfl : (va_cpy π π 1 0 5) = π' := by rw [← ho2]; simp [FfinW, Fshift, c_1]
    rw [hQ0]
    exact x_vret hx hb hret hlocks hW rfl dX5_finishGoal_60
  · skip
    refine lv_iconst (v := 1) hx hb dX5_finishGoal_52 (by decide) ?_
    refine lv_goto (tgt := 57) hx hb dX5_finishGoal_53 (by decide) ?_
    refine r_put hx hb hts hown hK hW (C := RX5) (T := TX5) (xF_walker r hr i hi) inlX5 tyX5 tyX5_ok nmX5 rfl (by decide) 5 (by decide) ((xr_walker r hr i hi).2.2 5 (by decide) (by decide)) xw_136 rfl rfl rfl rfl xSt4f dX5_finishGoal_57 (fun H locs hW => ?_)
    obtain rfl : (va_up (va_up (va_up ω 6 (-6)) 2 ((ω 2) - 1)) 5 1) = ω' := by rw [← ho0]; simp [FfinW, Fshift, c_1]
    obtain rfl : (va_cpy γ γ 1 0 5) = γ' := by rw [← ho1]; simp [FfinW, Fshift, c_1]
    obtain rfl : (va_cpy π π 1 0 5) = π' := by rw [← ho2]; simp [FfinW, Fshift, c_1]
    rw [hQ0]
    exact x_vret hx hb hret hlocks hW rfl dX5_finishGoal_60
set_option maxHeartbeats 4000000 in
set_option maxRecDepth 100000 in
theorem c_X5_arrive (l : Launch) (X : xX) (G : xG) {r i : Nat} {f sg : Nat → Int32} {L O Y P Q : Nat → Nat → Int32} {ω γ π : Nat → Int32}  (hr : r < 11) (hi : i < 8) {ω' : Nat → Int32} (ho0 : FarrW ω π = ω') {γ' : Nat → Int32} (ho1 : FarrP π γ = γ') {π' : Nat → Int32} (ho2 : FarrP π π = π') : XC l yX5_arrive cX5_arrive 1 none 2 60 0 0 X xsh [.ref (xB X + xkey r 4 i)] 603 603 (xval (xB X) (va_up G r (xSt f sg L O (va_up Y i ω) (va_up P i γ) (va_up Q i π)))) (xval (xB X) (va_up G r (xSt f sg L O (va_up Y i ω') (va_up P i γ') (va_up Q i π')))) none := by
  refine XC.of RX5 "arrive" [(0, .ref (xB X + xkey r 4 i))] (by decide) rfl rfl (Nat.le_of_ble_eq_true rfl) rfl ?_
  intro p e s m args below meth c ls hx hb hret hml hts hown hlocks hnm hK hW hl
  have hW : XR X G r (xSt f sg L O (va_up Y i ω) (va_up P i γ) (va_up Q i π)) s.heap [] := hW
  obtain ⟨Q0, hQ0⟩ : ∃ z, z = MQ below (xQ X xsh 603 (xval (xB X) (va_up G r (xSt f sg L O (va_up Y i ω') (va_up P i γ') (va_up Q i π')))) none) args s 0 0 (fun q => xB X ≤ q) := ⟨_, rfl⟩
  rw [← hQ0]
  refine lv_aload_n hx hb dX5_arrive_0 rfl (lv_at hl 0 rfl) ?_
  refine r_getr (C := RX5) (T := TX5) hx hb hts hown hK hW (xF_walker r hr i hi).1 (xF_walker r hr i hi).2.1 inlX5 rfl (by decide) 1 (by decide) (xr_walker r hr i hi).2.1 xw_61 rfl dX5_arrive_1 ?_
  refine lv_iconst (v := 0) hx hb dX5_arrive_4 (by decide) ?_
  refine r_iald hx hb hK hW (N := 6) (xF_gpauses r hr i hi) 0 (by decide) (by decide) (by decide) (xr_gpauses r hr i hi 0 (by decide)) (x := π 0) (show (va_up Q i π) i 0 = π 0 from xrd rfl) dX5_arrive_5 ?_
  refine lv_if_le (tgt := 17) hx hb dX5_arrive_6 (by decide) (fun c_1 => ?_) (fun c_1 => ?_)
  · skip
    refine lv_aload_n hx hb dX5_arrive_17 rfl (lv_at hl 0 rfl) ?_
    refine x_callV hx hb hml hown hts hK hW hl.1 (c_X5_finishGoal l X G (r := r) (i := i) (hr := hr) (hi := hi) (ho0 := rfl) (ho1 := rfl) (ho2 := rfl)) (xF_walker r hr i hi).1 (xF_walker r hr i hi).2.1 (by decide) rfl xw_415 xw_416 xw_417 xw_50 xw_418 hdV_yX5_finishGoal ⟨Nat.le_of_ble_eq_true rfl, Nat.le_of_ble_eq_true rfl⟩ rfl (Nat.le_of_ble_eq_true rfl) ⟨Nat.le_refl _, Nat.le_refl _⟩ dX5_arrive_18 (fun H locs hW => ?_)
    have hW : XR X G r (xSt f sg L O (va_up Y i (FfinW ω)) (va_up P i (Fshift γ)) (va_up Q i (Fshift π))) H locs := hW
    obtain rfl : (FfinW ω) = ω' := by rw [← ho0]; simp [FarrW, FarrP, c_1, Int32.not_lt.mpr c_1]
    obtain rfl : (Fshift γ) = γ' := by rw [← ho1]; simp [FarrW, FarrP, c_1, Int32.not_lt.mpr c_1]
    obtain rfl : (Fshift π) = π' := by rw [← ho2]; simp [FarrW, FarrP, c_1, Int32.not_lt.mpr c_1]
    rw [hQ0]
    exact x_vret hx hb hret hlocks hW rfl dX5_arrive_21
  · skip
    refine lv_aload_n hx hb dX5_arrive_9 rfl (lv_at hl 0 rfl) ?_
    refine lv_iconst (v := 0) hx hb dX5_arrive_10 (by decide) ?_
    refine r_put hx hb hts hown hK hW (C := RX5) (T := TX5) (xF_walker r hr i hi) inlX5 tyX5 tyX5_ok nmX5 rfl (by decide) 6 (by decide) ((xr_walker r hr i hi).2.2 6 (by decide) (by decide)) xw_137 rfl rfl rfl rfl xSt4f dX5_arrive_11 (fun H locs hW => ?_)
    refine lv_goto (tgt := 21) hx hb dX5_arrive_14 (by decide) ?_
    obtain rfl : (va_up ω 6 0) = ω' := by rw [← ho0]; simp [FarrW, FarrP, c_1, Int32.not_le.mp c_1]
    obtain rfl : γ = γ' := by rw [← ho1]; simp [FarrW, FarrP, c_1, Int32.not_le.mp c_1]
    obtain rfl : π = π' := by rw [← ho2]; simp [FarrW, FarrP, c_1, Int32.not_le.mp c_1]
    rw [hQ0]
    exact x_vret hx hb hret hlocks hW rfl dX5_arrive_21
set_option maxHeartbeats 4000000 in
set_option maxRecDepth 100000 in
theorem c_X5_go (l : Launch) (X : xX) (G : xG) {r i : Nat} {f sg : Nat → Int32} {L O Y P Q : Nat → Nat → Int32} {ω γ π : Nat → Int32}  (hr : r < 11) (hi : i < 8) {ω' : Nat → Int32} (ho0 : FgoW ω γ π = ω') {γ' : Nat → Int32} (ho1 : FgoP ω γ π γ = γ') {π' : Nat → Int32} (ho2 : FgoP ω γ π π = π') : XC l yX5_go cX5_go 3 none 3 80 0 0 X xsh [.ref (xB X + xkey r 4 i)] 603 603 (xval (xB X) (va_up G r (xSt f sg L O (va_up Y i ω) (va_up P i γ) (va_up Q i π)))) (xval (xB X) (va_up G r (xSt f sg L O (va_up Y i ω') (va_up P i γ') (va_up Q i π')))) none := by
  refine XC.of RX5 "go" [(0, .ref (xB X + xkey r 4 i))] (by decide) rfl rfl (Nat.le_of_ble_eq_true rfl) rfl ?_
  intro p e s m args below meth c ls hx hb hret hml hts hown hlocks hnm hK hW hl
  have hW : XR X G r (xSt f sg L O (va_up Y i ω) (va_up P i γ) (va_up Q i π)) s.heap [] := hW
  obtain ⟨Q0, hQ0⟩ : ∃ z, z = MQ below (xQ X xsh 603 (xval (xB X) (va_up G r (xSt f sg L O (va_up Y i ω') (va_up P i γ') (va_up Q i π')))) none) args s 0 0 (fun q => xB X ≤ q) := ⟨_, rfl⟩
  rw [← hQ0]
  refine lv_aload_n hx hb dX5_go_0 rfl (lv_at hl 0 rfl) ?_
  refine r_get hx hb hts hown hK hW (C := RX5) (T := TX5) (xF_walker r hr i hi) inlX5 rfl (by decide) 2 (by decide) ((xr_walker r hr i hi).2.2 2 (by decide) (by decide)) xw_133 rfl (x := ω 2) (show (va_up Y i ω) i 2 = ω 2 from xrd rfl) dX5_go_1 ?_
  refine lv_if_ne (tgt := 8) hx hb dX5_go_4 (by decide) (fun c_1 => ?_) (fun c_1 => ?_)
  · skip
    refine lv_aload_n hx hb dX5_go_8 rfl (lv_at hl 0 rfl) ?_
    refine r_get hx hb hts hown hK hW (C := RX5) (T := TX5) (xF_walker r hr i hi) inlX5 rfl (by decide) 6 (by decide) ((xr_walker r hr i hi).2.2 6 (by decide) (by decide)) xw_137 rfl (x := ω 6) (show (va_up Y i ω) i 6 = ω 6 from xrd rfl) dX5_go_9 ?_
    refine lv_bipush (v := (-6)) hx hb dX5_go_12 (by decide) ?_
    refine lv_icmp_eq (tgt := 45) hx hb dX5_go_14 (by decide) (fun c_2 => ?_) (fun c_2 => ?_)
    · skip
      refine lv_aload_n hx hb dX5_go_45 rfl (lv_at hl 0 rfl) ?_
      refine r_getr (C := RX5) (T := TX5) hx hb hts hown hK hW (xF_walker r hr i hi).1 (xF_walker r hr i hi).2.1 inlX5 rfl (by decide) 0 (by decide) (xr_walker r hr i hi).1 xw_60 rfl dX5_go_46 ?_
      refine lv_iconst (v := 0) hx hb dX5_go_49 (by decide) ?_
      refine r_iald hx hb hK hW (N := 6) (xF_gsteps r hr i hi) 0 (by decide) (by decide) (by decide) (xr_gsteps r hr i hi 0 (by decide)) (x := γ 0) (show (va_up P i γ) i 0 = γ 0 from xrd rfl) dX5_go_50 ?_
      refine lv_aload_n hx hb dX5_go_51 rfl (lv_at hl 0 rfl) ?_
      refine r_get hx hb hts hown hK hW (C := RX5) (T := TX5) (xF_walker r hr i hi) inlX5 rfl (by decide) 3 (by decide) ((xr_walker r hr i hi).2.2 3 (by decide) (by decide)) xw_134 rfl (x := ω 3) (show (va_up Y i ω) i 3 = ω 3 from xrd rfl) dX5_go_52 ?_
      refine lv_isub hx hb dX5_go_55 ?_
      refine lv_istore_n (lv' := [(1, .int ((γ 0) - (ω 3))), (0, .ref (xB X + xkey r 4 i))]) hx hb dX5_go_56 rfl hl (by decide) rfl (fun ls hl => ?_)
      refine lv_aload_n hx hb dX5_go_57 rfl (lv_at hl 1 rfl) ?_
      refine r_get hx hb hts hown hK hW (C := RX5) (T := TX5) (xF_walker r hr i hi) inlX5 rfl (by decide) 4 (by decide) ((xr_walker r hr i hi).2.2 4 (by decide) (by decide)) xw_135 rfl (x := ω 4) (show (va_up Y i ω) i 4 = ω 4 from xrd rfl) dX5_go_58 ?_
      refine lv_ineg hx hb dX5_go_61 ?_
      refine lv_aload_n hx hb dX5_go_62 rfl (lv_at hl 1 rfl) ?_
      refine r_get hx hb hts hown hK hW (C := RX5) (T := TX5) (xF_walker r hr i hi) inlX5 rfl (by decide) 4 (by decide) ((xr_walker r hr i hi).2.2 4 (by decide) (by decide)) xw_135 rfl (x := ω 4) (show (va_up Y i ω) i 4 = ω 4 from xrd rfl) dX5_go_63 ?_
      refine lv_iload_n hx hb dX5_go_66 rfl (lv_at hl 0 rfl) ?_
      refine va_mmin hx hb (hml.trans hl.1.symm) hown (hts _ xw_410) (hts _ xw_152) (hts _ xw_153) (hts _ xw_154) (Nat.le_of_ble_eq_true rfl) (Nat.le_of_ble_eq_true rfl) (Nat.le_refl _) (Nat.le_refl _) dX5_go_67 ?_
      refine lv_eqi (y := xmin (ω 4) ((γ 0) - (ω 3))) rfl ?_
      refine va_mmax hx hb (hml.trans hl.1.symm) hown (hts _ xw_411) (hts _ xw_412) (hts _ xw_153) (hts _ xw_413) (Nat.le_of_ble_eq_true rfl) (Nat.le_of_ble_eq_true rfl) (Nat.le_refl _) (Nat.le_refl _) dX5_go_70 ?_
      refine lv_eqi (y := xmax (-(ω 4)) (xmin (ω 4) ((γ 0) - (ω 3)))) rfl ?_
      refine lv_istore_n (lv' := [(2, .int (xmax (-(ω 4)) (xmin (ω 4) ((γ 0) - (ω 3))))), (1, .int ((γ 0) - (ω 3))), (0, .ref (xB X + xkey r 4 i))]) hx hb dX5_go_73 rfl hl (by decide) rfl (fun ls hl => ?_)
      refine lv_aload_n hx hb dX5_go_74 rfl (lv_at hl 2 rfl) ?_
      refine lv_dup hx hb dX5_go_75 rfl ?_
      refine r_get hx hb hts hown hK hW (C := RX5) (T := TX5) (xF_walker r hr i hi) inlX5 rfl (by decide) 3 (by decide) ((xr_walker r hr i hi).2.2 3 (by decide) (by decide)) xw_134 rfl (x := ω 3) (show (va_up Y i ω) i 3 = ω 3 from xrd rfl) dX5_go_76 ?_
      refine lv_iload_n hx hb dX5_go_79 rfl (lv_at hl 0 rfl) ?_
      refine lv_iadd hx hb dX5_go_80 ?_
      refine r_put hx hb hts hown hK hW (C := RX5) (T := TX5) (xF_walker r hr i hi) inlX5 tyX5 tyX5_ok nmX5 rfl (by decide) 3 (by decide) ((xr_walker r hr i hi).2.2 3 (by decide) (by decide)) xw_134 rfl rfl rfl rfl xSt4f dX5_go_81 (fun H locs hW => ?_)
      refine lv_aload_n hx hb dX5_go_84 rfl (lv_at hl 2 rfl) ?_
      refine lv_dup hx hb dX5_go_85 rfl ?_
      refine r_get hx hb hts hown hK hW (C := RX5) (T := TX5) (xF_walker r hr i hi) inlX5 rfl (by decide) 8 (by decide) ((xr_walker r hr i hi).2.2 8 (by decide) (by decide)) xw_139 rfl (x := ω 8) (show (va_up Y i (va_up ω 3 ((ω 3) + (xmax (-(ω 4)) (xmin (ω 4) ((γ 0) - (ω 3))))))) i 8 = ω 8 from xrd rfl) dX5_go_86 ?_
      refine lv_iload_n hx hb dX5_go_89 rfl (lv_at hl 0 rfl) ?_
      refine va_mabs hx hb (hml.trans hl.1.symm) hown (hts _ xw_414) (hts _ xw_355) (hts _ xw_153) (hts _ xw_356) (Nat.le_of_ble_eq_true rfl) (Nat.le_of_ble_eq_true rfl) (Nat.le_refl _) (Nat.le_refl _) dX5_go_90 ?_
      refine lv_eqi (y := xabs (xmax (-(ω 4)) (xmin (ω 4) ((γ 0) - (ω 3))))) rfl ?_
      refine lv_iadd hx hb dX5_go_93 ?_
      refine r_put hx hb hts hown hK hW (C := RX5) (T := TX5) (xF_walker r hr i hi) inlX5 tyX5 tyX5_ok nmX5 rfl (by decide) 8 (by decide) ((xr_walker r hr i hi).2.2 8 (by decide) (by decide)) xw_139 rfl rfl rfl rfl xSt4f dX5_go_94 (fun H locs hW => ?_)
      refine lv_iload_n hx hb dX5_go_97 rfl (lv_at hl 0 rfl) ?_
      refine lv_iload_n hx hb dX5_go_98 rfl (lv_at hl 1 rfl) ?_
      refine lv_icmp_ne (tgt := 106) hx hb dX5_go_99 (by decide) (fun c_3 => ?_) (fun c_3 => ?_)
      · skip
        obtain rfl : (va_up (va_up ω 3 ((ω 3) + (xmax (-(ω 4)) (xmin (ω 4) ((γ 0) - (ω 3)))))) 8 ((ω 8) + (xabs (xmax (-(ω 4)) (xmin (ω 4) ((γ 0) - (ω 3))))))) = ω' := by rw [← ho0]; simp [FgoW, FgoP, Fstep, Fgone, c_1, c_2, c_3]
        obtain rfl : γ = γ' := by rw [← ho1]; simp [FgoW, FgoP, Fstep, Fgone, c_1, c_2, c_3]
        obtain rfl : π = π' := by rw [← ho2]; simp [FgoW, FgoP, Fstep, Fgone, c_1, c_2, c_3]
        rw [hQ0]
        exact x_vret hx hb hret hlocks hW rfl dX5_go_106
      · skip
        refine lv_aload_n hx hb dX5_go_102 rfl (lv_at hl 2 rfl) ?_
        refine x_callV hx hb hml hown hts hK hW hl.1 (c_X5_arrive l X G (r := r) (i := i) (hr := hr) (hi := hi) (ho0 := rfl) (ho1 := rfl) (ho2 := rfl)) (xF_walker r hr i hi).1 (xF_walker r hr i hi).2.1 (by decide) rfl xw_419 xw_420 xw_421 xw_50 xw_422 hdV_yX5_arrive ⟨Nat.le_of_ble_eq_true rfl, Nat.le_of_ble_eq_true rfl⟩ rfl (Nat.le_of_ble_eq_true rfl) ⟨Nat.le_refl _, Nat.le_refl _⟩ dX5_go_103 (fun H locs hW => ?_)
        have hW : XR X G r (xSt f sg L O (va_up Y i (FarrW (va_up (va_up ω 3 ((ω 3) + (xmax (-(ω 4)) (xmin (ω 4) ((γ 0) - (ω 3)))))) 8 ((ω 8) + (xabs (xmax (-(ω 4)) (xmin (ω 4) ((γ 0) - (ω 3))))))) π)) (va_up P i (FarrP π γ)) (va_up Q i (FarrP π π))) H locs := hW
        obtain rfl : (FarrW (va_up (va_up ω 3 ((ω 3) + (xmax (-(ω 4)) (xmin (ω 4) ((γ 0) - (ω 3)))))) 8 ((ω 8) + (xabs (xmax (-(ω 4)) (xmin (ω 4) ((γ 0) - (ω 3))))))) π) = ω' := by rw [← ho0]; simp [FgoW, FgoP, Fstep, Fgone, c_1, c_2, c_3]
        obtain rfl : (FarrP π γ) = γ' := by rw [← ho1]; simp [FgoW, FgoP, Fstep, Fgone, c_1, c_2, c_3]
        obtain rfl : (FarrP π π) = π' := by rw [← ho2]; simp [FgoW, FgoP, Fstep, Fgone, c_1, c_2, c_3]
        rw [hQ0]
        exact x_vret hx hb hret hlocks hW rfl dX5_go_106
    · skip
      refine lv_aload_n hx hb dX5_go_17 rfl (lv_at hl 0 rfl) ?_
      refine lv_dup hx hb dX5_go_18 rfl ?_
      refine r_get hx hb hts hown hK hW (C := RX5) (T := TX5) (xF_walker r hr i hi) inlX5 rfl (by decide) 6 (by decide) ((xr_walker r hr i hi).2.2 6 (by decide) (by decide)) xw_137 rfl (x := ω 6) (show (va_up Y i ω) i 6 = ω 6 from xrd rfl) dX5_go_19 ?_
      refine lv_iconst (v := 1) hx hb dX5_go_22 (by decide) ?_
      refine lv_iadd hx hb dX5_go_23 ?_
      refine r_put hx hb hts hown hK hW (C := RX5) (T := TX5) (xF_walker r hr i hi) inlX5 tyX5 tyX5_ok nmX5 rfl (by decide) 6 (by decide) ((xr_walker r hr i hi).2.2 6 (by decide) (by decide)) xw_137 rfl rfl rfl rfl xSt4f dX5_go_24 (fun H locs hW => ?_)
      refine lv_aload_n hx hb dX5_go_27 rfl (lv_at hl 0 rfl) ?_
      refine r_get hx hb hts hown hK hW (C := RX5) (T := TX5) (xF_walker r hr i hi) inlX5 rfl (by decide) 6 (by decide) ((xr_walker r hr i hi).2.2 6 (by decide) (by decide)) xw_137 rfl (x := (ω 6) + 1) (show (va_up Y i (va_up ω 6 ((ω 6) + 1))) i 6 = (ω 6) + 1 from xrd rfl) dX5_go_28 ?_
      refine lv_aload_n hx hb dX5_go_31 rfl (lv_at hl 0 rfl) ?_
      refine r_getr (C := RX5) (T := TX5) hx hb hts hown hK hW (xF_walker r hr i hi).1 (xF_walker r hr i hi).2.1 inlX5 rfl (by decide) 1 (by decide) (xr_walker r hr i hi).2.1 xw_61 rfl dX5_go_32 ?_
      refine lv_iconst (v := 0) hx hb dX5_go_35 (by decide) ?_
      refine r_iald hx hb hK hW (N := 6) (xF_gpauses r hr i hi) 0 (by decide) (by decide) (by decide) (xr_gpauses r hr i hi 0 (by decide)) (x := π 0) (show (va_up Q i π) i 0 = π 0 from xrd rfl) dX5_go_36 ?_
      refine lv_icmp_lt (tgt := 44) hx hb dX5_go_37 (by decide) (fun c_4 => ?_) (fun c_4 => ?_)
      · skip
        obtain rfl : (va_up ω 6 ((ω 6) + 1)) = ω' := by rw [← ho0]; simp [FgoW, FgoP, Fstep, Fgone, c_1, c_2, c_4, Int32.not_le.mpr c_4]
        obtain rfl : γ = γ' := by rw [← ho1]; simp [FgoW, FgoP, Fstep, Fgone, c_1, c_2, c_4, Int32.not_le.mpr c_4]
        obtain rfl : π = π' := by rw [← ho2]; simp [FgoW, FgoP, Fstep, Fgone, c_1, c_2, c_4, Int32.not_le.mpr c_4]
        rw [hQ0]
        exact x_vret hx hb hret hlocks hW rfl dX5_go_44
      · skip
        refine lv_aload_n hx hb dX5_go_40 rfl (lv_at hl 0 rfl) ?_
        refine x_callV hx hb hml hown hts hK hW hl.1 (c_X5_finishGoal l X G (r := r) (i := i) (hr := hr) (hi := hi) (ho0 := rfl) (ho1 := rfl) (ho2 := rfl)) (xF_walker r hr i hi).1 (xF_walker r hr i hi).2.1 (by decide) rfl xw_415 xw_416 xw_417 xw_50 xw_418 hdV_yX5_finishGoal ⟨Nat.le_of_ble_eq_true rfl, Nat.le_of_ble_eq_true rfl⟩ rfl (Nat.le_of_ble_eq_true rfl) ⟨Nat.le_refl _, Nat.le_refl _⟩ dX5_go_41 (fun H locs hW => ?_)
        have hW : XR X G r (xSt f sg L O (va_up Y i (FfinW (va_up ω 6 ((ω 6) + 1)))) (va_up P i (Fshift γ)) (va_up Q i (Fshift π))) H locs := hW
        obtain rfl : (FfinW (va_up ω 6 ((ω 6) + 1))) = ω' := by rw [← ho0]; simp [FgoW, FgoP, Fstep, Fgone, c_1, c_2, c_4, Int32.not_lt.mp c_4]
        obtain rfl : (Fshift γ) = γ' := by rw [← ho1]; simp [FgoW, FgoP, Fstep, Fgone, c_1, c_2, c_4, Int32.not_lt.mp c_4]
        obtain rfl : (Fshift π) = π' := by rw [← ho2]; simp [FgoW, FgoP, Fstep, Fgone, c_1, c_2, c_4, Int32.not_lt.mp c_4]
        rw [hQ0]
        exact x_vret hx hb hret hlocks hW rfl dX5_go_44
  · skip
    obtain rfl : ω = ω' := by rw [← ho0]; simp [FgoW, FgoP, Fstep, Fgone, c_1]
    obtain rfl : γ = γ' := by rw [← ho1]; simp [FgoW, FgoP, Fstep, Fgone, c_1]
    obtain rfl : π = π' := by rw [← ho2]; simp [FgoW, FgoP, Fstep, Fgone, c_1]
    rw [hQ0]
    exact x_vret hx hb hret hlocks hW rfl dX5_go_7
set_option maxHeartbeats 4000000 in
set_option maxRecDepth 100000 in
theorem c_X5_addGoal (l : Launch) (X : xX) (G : xG) {r i : Nat} {f sg : Nat → Int32} {L O Y P Q : Nat → Nat → Int32} {ω γ π : Nat → Int32} {a b : Int32} {g : Nat} (hr : r < 11) (hi : i < 8) (hg : ω 2 = nI g) (hg6 : g ≤ 6) {ω' : Nat → Int32} (ho0 : FaddW ω = ω') {γ' : Nat → Int32} (ho1 : FaddP g a ω γ = γ') {π' : Nat → Int32} (ho2 : FaddP g b ω π = π') {res : Int32} (hres : FaddR ω = res) : XC l yX5_addGoal cX5_addGoal 3 (some .int) 0 0 0 0 X xsh [.ref (xB X + xkey r 4 i), .int a, .int b] 603 603 (xval (xB X) (va_up G r (xSt f sg L O (va_up Y i ω) (va_up P i γ) (va_up Q i π)))) (xval (xB X) (va_up G r (xSt f sg L O (va_up Y i ω') (va_up P i γ') (va_up Q i π')))) (some (.int res)) := by
  refine XC.of RX5 "addGoal" [(0, .ref (xB X + xkey r 4 i)), (1, .int a), (2, .int b)] (by decide) rfl rfl (Nat.le_of_ble_eq_true rfl) rfl ?_
  intro p e s m args below meth c ls hx hb hret hml hts hown hlocks hnm hK hW hl
  have hW : XR X G r (xSt f sg L O (va_up Y i ω) (va_up P i γ) (va_up Q i π)) s.heap [] := hW
  obtain ⟨Q0, hQ0⟩ : ∃ z, z = MQ below (xQ X xsh 603 (xval (xB X) (va_up G r (xSt f sg L O (va_up Y i ω') (va_up P i γ') (va_up Q i π')))) (some (.int res))) args s 0 0 (fun q => xB X ≤ q) := ⟨_, rfl⟩
  rw [← hQ0]
  refine lv_aload_n hx hb dX5_addGoal_0 rfl (lv_at hl 0 rfl) ?_
  refine r_get hx hb hts hown hK hW (C := RX5) (T := TX5) (xF_walker r hr i hi) inlX5 rfl (by decide) 2 (by decide) ((xr_walker r hr i hi).2.2 2 (by decide) (by decide)) xw_133 rfl (x := ω 2) (show (va_up Y i ω) i 2 = ω 2 from xrd rfl) dX5_addGoal_1 ?_
  refine lv_bipush (v := 6) hx hb dX5_addGoal_4 (by decide) ?_
  refine lv_icmp_lt (tgt := 12) hx hb dX5_addGoal_6 (by decide) (fun c_1 => ?_) (fun c_1 => ?_)
  · skip
    refine lv_aload_n hx hb dX5_addGoal_12 rfl (lv_at hl 0 rfl) ?_
    refine r_get hx hb hts hown hK hW (C := RX5) (T := TX5) (xF_walker r hr i hi) inlX5 rfl (by decide) 5 (by decide) ((xr_walker r hr i hi).2.2 5 (by decide) (by decide)) xw_136 rfl (x := ω 5) (show (va_up Y i ω) i 5 = ω 5 from xrd rfl) dX5_addGoal_13 ?_
    refine lv_if_eq (tgt := 22) hx hb dX5_addGoal_16 (by decide) (fun c_2 => ?_) (fun c_2 => ?_)
    · skip
      refine lv_aload_n hx hb dX5_addGoal_22 rfl (lv_at hl 0 rfl) ?_
      refine r_getr (C := RX5) (T := TX5) hx hb hts hown hK hW (xF_walker r hr i hi).1 (xF_walker r hr i hi).2.1 inlX5 rfl (by decide) 0 (by decide) (xr_walker r hr i hi).1 xw_60 rfl dX5_addGoal_23 ?_
      refine lv_aload_n hx hb dX5_addGoal_26 rfl (lv_at hl 0 rfl) ?_
      refine r_get hx hb hts hown hK hW (C := RX5) (T := TX5) (xF_walker r hr i hi) inlX5 rfl (by decide) 2 (by decide) ((xr_walker r hr i hi).2.2 2 (by decide) (by decide)) xw_133 rfl (x := ω 2) (show (va_up Y i ω) i 2 = ω 2 from xrd rfl) dX5_addGoal_27 ?_
      refine lv_iload_n hx hb dX5_addGoal_30 rfl (lv_at hl 1 rfl) ?_
      refine r_iast hx hb hK hW (N := 6) (xF_gsteps r hr i hi) g (xg6 hg hg6 c_1) (by decide) hg (xr_gsteps r hr i hi g (xg6 hg hg6 c_1)) xSt5f dX5_addGoal_31 (fun H locs hW => ?_)
      refine lv_aload_n hx hb dX5_addGoal_32 rfl (lv_at hl 0 rfl) ?_
      refine r_getr (C := RX5) (T := TX5) hx hb hts hown hK hW (xF_walker r hr i hi).1 (xF_walker r hr i hi).2.1 inlX5 rfl (by decide) 1 (by decide) (xr_walker r hr i hi).2.1 xw_61 rfl dX5_addGoal_33 ?_
      refine lv_aload_n hx hb dX5_addGoal_36 rfl (lv_at hl 0 rfl) ?_
      refine r_get hx hb hts hown hK hW (C := RX5) (T := TX5) (xF_walker r hr i hi) inlX5 rfl (by decide) 2 (by decide) ((xr_walker r hr i hi).2.2 2 (by decide) (by decide)) xw_133 rfl (x := ω 2) (show (va_up Y i ω) i 2 = ω 2 from xrd rfl) dX5_addGoal_37 ?_
      refine lv_iload_n hx hb dX5_addGoal_40 rfl (lv_at hl 2 rfl) ?_
      refine r_iast hx hb hK hW (N := 6) (xF_gpauses r hr i hi) g (xg6 hg hg6 c_1) (by decide) hg (xr_gpauses r hr i hi g (xg6 hg hg6 c_1)) xSt6f dX5_addGoal_41 (fun H locs hW => ?_)
      refine lv_aload_n hx hb dX5_addGoal_42 rfl (lv_at hl 0 rfl) ?_
      refine lv_dup hx hb dX5_addGoal_43 rfl ?_
      refine r_get hx hb hts hown hK hW (C := RX5) (T := TX5) (xF_walker r hr i hi) inlX5 rfl (by decide) 2 (by decide) ((xr_walker r hr i hi).2.2 2 (by decide) (by decide)) xw_133 rfl (x := ω 2) (show (va_up Y i ω) i 2 = ω 2 from xrd rfl) dX5_addGoal_44 ?_
      refine lv_iconst (v := 1) hx hb dX5_addGoal_47 (by decide) ?_
      refine lv_iadd hx hb dX5_addGoal_48 ?_
      refine r_put hx hb hts hown hK hW (C := RX5) (T := TX5) (xF_walker r hr i hi) inlX5 tyX5 tyX5_ok nmX5 rfl (by decide) 2 (by decide) ((xr_walker r hr i hi).2.2 2 (by decide) (by decide)) xw_133 rfl rfl rfl rfl xSt4f dX5_addGoal_49 (fun H locs hW => ?_)
      refine lv_aload_n hx hb dX5_addGoal_52 rfl (lv_at hl 0 rfl) ?_
      refine r_get hx hb hts hown hK hW (C := RX5) (T := TX5) (xF_walker r hr i hi) inlX5 rfl (by decide) 2 (by decide) ((xr_walker r hr i hi).2.2 2 (by decide) (by decide)) xw_133 rfl (x := (ω 2) + 1) (show (va_up Y i (va_up ω 2 ((ω 2) + 1))) i 2 = (ω 2) + 1 from xrd rfl) dX5_addGoal_53 ?_
      obtain rfl : (va_up ω 2 ((ω 2) + 1)) = ω' := by rw [← ho0]; simp [FaddW, FaddP, FaddR, c_1, Int32.not_le.mpr c_1, c_2]
      obtain rfl : (va_up γ g a) = γ' := by rw [← ho1]; simp [FaddW, FaddP, FaddR, c_1, Int32.not_le.mpr c_1, c_2]
      obtain rfl : (va_up π g b) = π' := by rw [← ho2]; simp [FaddW, FaddP, FaddR, c_1, Int32.not_le.mpr c_1, c_2]
      obtain rfl : (ω 2) + 1 = res := by rw [← hres]; simp [FaddW, FaddP, FaddR, c_1, Int32.not_le.mpr c_1, c_2]
      rw [hQ0]
      exact x_iret hx hb hret hlocks rfl hW rfl dX5_addGoal_56
    · skip
      refine lv_bipush (v := (-5)) hx hb dX5_addGoal_19 (by decide) ?_
      obtain rfl : ω = ω' := by rw [← ho0]; simp [FaddW, FaddP, FaddR, c_1, Int32.not_le.mpr c_1, c_2]
      obtain rfl : γ = γ' := by rw [← ho1]; simp [FaddW, FaddP, FaddR, c_1, Int32.not_le.mpr c_1, c_2]
      obtain rfl : π = π' := by rw [← ho2]; simp [FaddW, FaddP, FaddR, c_1, Int32.not_le.mpr c_1, c_2]
      obtain rfl : (-5) = res := by rw [← hres]; simp [FaddW, FaddP, FaddR, c_1, Int32.not_le.mpr c_1, c_2]
      rw [hQ0]
      exact x_iret hx hb hret hlocks rfl hW rfl dX5_addGoal_21
  · skip
    refine lv_bipush (v := (-4)) hx hb dX5_addGoal_9 (by decide) ?_
    obtain rfl : ω = ω' := by rw [← ho0]; simp [FaddW, FaddP, FaddR, c_1, Int32.not_lt.mp c_1]
    obtain rfl : γ = γ' := by rw [← ho1]; simp [FaddW, FaddP, FaddR, c_1, Int32.not_lt.mp c_1]
    obtain rfl : π = π' := by rw [← ho2]; simp [FaddW, FaddP, FaddR, c_1, Int32.not_lt.mp c_1]
    obtain rfl : (-4) = res := by rw [← hres]; simp [FaddW, FaddP, FaddR, c_1, Int32.not_lt.mp c_1]
    rw [hQ0]
    exact x_iret hx hb hret hlocks rfl hW rfl dX5_addGoal_11
set_option maxHeartbeats 4000000 in
set_option maxRecDepth 100000 in
theorem c_X1_place (l : Launch) (X : xX) (G : xG) {r i : Nat} {f sg : Nat → Int32} {L O Y P Q : Nat → Nat → Int32} {ℓ : Nat → Int32} {a : Int32} (hr : r < 11) (hi : i < 8)  : XC l yX1_place cX1_place 2 none 0 0 0 0 X xsh [.ref (xB X + xkey r 3 i), .int a] 603 603 (xval (xB X) (va_up G r (xSt f sg L (va_up O i ℓ) Y P Q))) (xval (xB X) (va_up G r (xSt f sg L (va_up O i (va_up (va_up ℓ 0 a) 1 0)) Y P Q))) none := by
  refine XC.of RX1 "place" [(0, .ref (xB X + xkey r 3 i)), (1, .int a)] (by decide) rfl rfl (Nat.le_of_ble_eq_true rfl) rfl ?_
  intro p e s m args below meth c ls hx hb hret hml hts hown hlocks hnm hK hW hl
  have hW : XR X G r (xSt f sg L (va_up O i ℓ) Y P Q) s.heap [] := hW
  obtain ⟨Q0, hQ0⟩ : ∃ z, z = MQ below (xQ X xsh 603 (xval (xB X) (va_up G r (xSt f sg L (va_up O i (va_up (va_up ℓ 0 a) 1 0)) Y P Q))) none) args s 0 0 (fun q => xB X ≤ q) := ⟨_, rfl⟩
  rw [← hQ0]
  refine lv_aload_n hx hb dX1_place_0 rfl (lv_at hl 0 rfl) ?_
  refine lv_iload_n hx hb dX1_place_1 rfl (lv_at hl 1 rfl) ?_
  refine r_put hx hb hts hown hK hW (C := RX1) (T := TX1) (xF_house r hr i hi) inlX1 tyX1 tyX1_ok nmX1 rfl (by decide) 0 (by decide) (xr_house r hr i hi 0 (by decide)) xw_126 rfl rfl rfl rfl xSt3f dX1_place_2 (fun H locs hW => ?_)
  refine lv_aload_n hx hb dX1_place_5 rfl (lv_at hl 0 rfl) ?_
  refine lv_iconst (v := 0) hx hb dX1_place_6 (by decide) ?_
  refine r_put hx hb hts hown hK hW (C := RX1) (T := TX1) (xF_house r hr i hi) inlX1 tyX1 tyX1_ok nmX1 rfl (by decide) 1 (by decide) (xr_house r hr i hi 1 (by decide)) xw_127 rfl rfl rfl rfl xSt3f dX1_place_7 (fun H locs hW => ?_)
  rw [hQ0]
  exact x_vret hx hb hret hlocks hW rfl dX1_place_10
end
