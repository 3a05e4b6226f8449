def RX0 : String := "DelveKeep$Bones"
def TX0 : u_T := fun k => match k with
  | 0 => ("DelveKeep$Bones", "place", "[I", true)
  | _ => ("DelveKeep$Bones", "spot", "I", false)
def tyX0 : Nat → FieldType := fun k => match k with
  | 0 => .array .int
  | _ => .int
abbrev wsX00 : List Cond := u_ws RX0 TX0 2
theorem nmX0 : ∀ a, a < 2 → ∀ b, b < 2 → a ≠ b → (TX0 a).2.1 ≠ (TX0 b).2.1 := by decide +kernel
theorem tyX0_ok : ∀ k, k < 2 → parseFieldDescriptor (TX0 k).2.2.1 = some (tyX0 k) := by decide +kernel
abbrev cX0_init : ByteArray := prog_2_method_1_code
def yX0_init : MethodName := ⟨RX0, "<init>", "()V"⟩
abbrev cX0_note : ByteArray := prog_2_method_2_code
def yX0_note : MethodName := ⟨RX0, "note", "(LDelveKeep$World;)V"⟩
abbrev cX0_layIn : ByteArray := prog_2_method_3_code
def yX0_layIn : MethodName := ⟨RX0, "layIn", "(LDelveKeep$World;)V"⟩
def RX1 : String := "DelveKeep$Cave"
def TX1 : u_T := fun k => match k with
  | 0 => ("DelveKeep$Cave", "signs", "[C", true)
  | 1 => ("DelveKeep$Cave", "queue", "[I", true)
  | 2 => ("DelveKeep$Cave", "delay", "[I", true)
  | 3 => ("DelveKeep$Cave", "ways", "[I", true)
  | 4 => ("DelveKeep$Cave", "steps", "[I", true)
  | _ => ("DelveKeep$Cave", "aimed", "I", false)
def tyX1 : Nat → FieldType := fun k => match k with
  | 0 => .array .char
  | 1 => .array .int
  | 2 => .array .int
  | 3 => .array .int
  | 4 => .array .int
  | _ => .int
abbrev wsX10 : List Cond := u_ws RX1 TX1 6
theorem nmX1 : ∀ a, a < 6 → ∀ b, b < 6 → a ≠ b → (TX1 a).2.1 ≠ (TX1 b).2.1 := by decide +kernel
theorem tyX1_ok : ∀ k, k < 6 → parseFieldDescriptor (TX1 k).2.2.1 = some (tyX1 k) := by decide +kernel
abbrev cX1_init : ByteArray := prog_3_method_1_code
def yX1_init : MethodName := ⟨RX1, "<init>", "()V"⟩
abbrev cX1_copy : ByteArray := prog_3_method_2_code
def yX1_copy : MethodName := ⟨RX1, "copy", "(LDelveKeep$Cave;)V"⟩
abbrev cX1_signAt : ByteArray := prog_3_method_3_code
def yX1_signAt : MethodName := ⟨RX1, "signAt", "(I)C"⟩
abbrev cX1_change : ByteArray := prog_3_method_4_code
def yX1_change : MethodName := ⟨RX1, "change", "(IC)V"⟩
abbrev cX1_isFreeAt : ByteArray := prog_3_method_5_code
def yX1_isFreeAt : MethodName := ⟨RX1, "isFreeAt", "(I)Z"⟩
abbrev cX1_seeEachOther : ByteArray := prog_3_method_6_code
def yX1_seeEachOther : MethodName := ⟨RX1, "seeEachOther", "(II)Z"⟩
abbrev cX1_aimAt : ByteArray := prog_3_method_7_code
def yX1_aimAt : MethodName := ⟨RX1, "aimAt", "(I)V"⟩
abbrev cX1_flood : ByteArray := prog_3_method_8_code
def yX1_flood : MethodName := ⟨RX1, "flood", "([IIIII)V"⟩
abbrev cX1_tollOf : ByteArray := prog_3_method_9_code
def yX1_tollOf : MethodName := ⟨RX1, "tollOf", "(III)I"⟩
abbrev cX1_isLike : ByteArray := prog_3_method_10_code
def yX1_isLike : MethodName := ⟨RX1, "isLike", "(LDelveKeep$Cave;)Z"⟩
def RX2 : String := "DelveKeep$Creatures"
def TX2 : u_T := fun k => match k with
  | 0 => ("DelveKeep$Creatures", "place", "[I", true)
  | 1 => ("DelveKeep$Creatures", "speed", "[I", true)
  | 2 => ("DelveKeep$Creatures", "strength", "[I", true)
  | 3 => ("DelveKeep$Creatures", "first", "[I", true)
  | 4 => ("DelveKeep$Creatures", "health", "[I", true)
  | 5 => ("DelveKeep$Creatures", "energy", "[I", true)
  | 6 => ("DelveKeep$Creatures", "haste", "[I", true)
  | 7 => ("DelveKeep$Creatures", "hasteLeft", "[I", true)
  | 8 => ("DelveKeep$Creatures", "aim", "[I", true)
  | _ => ("DelveKeep$Creatures", "count", "I", false)
def tyX2 : Nat → FieldType := fun k => match k with
  | 0 => .array .int
  | 1 => .array .int
  | 2 => .array .int
  | 3 => .array .int
  | 4 => .array .int
  | 5 => .array .int
  | 6 => .array .int
  | 7 => .array .int
  | 8 => .array .int
  | _ => .int
abbrev wsX20 : List Cond := u_ws RX2 TX2 10
theorem nmX2 : ∀ a, a < 10 → ∀ b, b < 10 → a ≠ b → (TX2 a).2.1 ≠ (TX2 b).2.1 := by decide +kernel
theorem tyX2_ok : ∀ k, k < 10 → parseFieldDescriptor (TX2 k).2.2.1 = some (tyX2 k) := by decide +kernel
abbrev cX2_init : ByteArray := prog_4_method_1_code
def yX2_init : MethodName := ⟨RX2, "<init>", "()V"⟩
abbrev cX2_copy : ByteArray := prog_4_method_2_code
def yX2_copy : MethodName := ⟨RX2, "copy", "(LDelveKeep$Creatures;)V"⟩
abbrev cX2_tell : ByteArray := prog_4_method_3_code
def yX2_tell : MethodName := ⟨RX2, "tell", "(IIIII)V"⟩
abbrev cX2_lives : ByteArray := prog_4_method_4_code
def yX2_lives : MethodName := ⟨RX2, "lives", "(I)Z"⟩
abbrev cX2_livingAt : ByteArray := prog_4_method_7_code
def yX2_livingAt : MethodName := ⟨RX2, "livingAt", "(I)I"⟩
abbrev cX2_allStandApart : ByteArray := prog_4_method_8_code
def yX2_allStandApart : MethodName := ⟨RX2, "allStandApart", "()Z"⟩
abbrev cX2_isWeak : ByteArray := prog_4_method_9_code
def yX2_isWeak : MethodName := ⟨RX2, "isWeak", "(I)Z"⟩
abbrev cX2_harm : ByteArray := prog_4_method_10_code
def yX2_harm : MethodName := ⟨RX2, "harm", "(II)V"⟩
abbrev cX2_heal : ByteArray := prog_4_method_11_code
def yX2_heal : MethodName := ⟨RX2, "heal", "(II)V"⟩
abbrev cX2_hasten : ByteArray := prog_4_method_12_code
def yX2_hasten : MethodName := ⟨RX2, "hasten", "(II)V"⟩
abbrev cX2_gainEnergy : ByteArray := prog_4_method_13_code
def yX2_gainEnergy : MethodName := ⟨RX2, "gainEnergy", "()V"⟩
abbrev cX2_spendTurn : ByteArray := prog_4_method_14_code
def yX2_spendTurn : MethodName := ⟨RX2, "spendTurn", "(I)V"⟩
abbrev cX2_nextToAct : ByteArray := prog_4_method_15_code
def yX2_nextToAct : MethodName := ⟨RX2, "nextToAct", "()I"⟩
abbrev cX2_isLike : ByteArray := prog_4_method_16_code
def yX2_isLike : MethodName := ⟨RX2, "isLike", "(LDelveKeep$Creatures;)Z"⟩
def RX3 : String := "DelveKeep$Kinds"
def TX3 : u_T := fun k => match k with
  | 0 => ("DelveKeep$Kinds", "weight", "[I", true)
  | 1 => ("DelveKeep$Kinds", "wooden", "[I", true)
  | 2 => ("DelveKeep$Kinds", "effect", "[I", true)
  | 3 => ("DelveKeep$Kinds", "strength", "[I", true)
  | _ => ("DelveKeep$Kinds", "radius", "[I", true)
def tyX3 : Nat → FieldType := fun k => match k with
  | 0 => .array .int
  | 1 => .array .int
  | 2 => .array .int
  | 3 => .array .int
  | _ => .array .int
abbrev wsX30 : List Cond := u_ws RX3 TX3 5
theorem nmX3 : ∀ a, a < 5 → ∀ b, b < 5 → a ≠ b → (TX3 a).2.1 ≠ (TX3 b).2.1 := by decide +kernel
theorem tyX3_ok : ∀ k, k < 5 → parseFieldDescriptor (TX3 k).2.2.1 = some (tyX3 k) := by decide +kernel
abbrev cX3_init : ByteArray := prog_5_method_1_code
def yX3_init : MethodName := ⟨RX3, "<init>", "()V"⟩
abbrev cX3_copy : ByteArray := prog_5_method_2_code
def yX3_copy : MethodName := ⟨RX3, "copy", "(LDelveKeep$Kinds;)V"⟩
abbrev cX3_tell : ByteArray := prog_5_method_3_code
def yX3_tell : MethodName := ⟨RX3, "tell", "(IIZ)V"⟩
abbrev cX3_tellEffect : ByteArray := prog_5_method_4_code
def yX3_tellEffect : MethodName := ⟨RX3, "tellEffect", "(ICII)V"⟩
abbrev cX3_effectOf : ByteArray := prog_5_method_5_code
def yX3_effectOf : MethodName := ⟨RX3, "effectOf", "(I)C"⟩
abbrev cX3_isWooden : ByteArray := prog_5_method_6_code
def yX3_isWooden : MethodName := ⟨RX3, "isWooden", "(I)Z"⟩
def RX4 : String := "DelveKeep$Lamps"
def TX4 : u_T := fun k => match k with
  | 0 => ("DelveKeep$Lamps", "place", "[I", true)
  | 1 => ("DelveKeep$Lamps", "radius", "[I", true)
  | _ => ("DelveKeep$Lamps", "count", "I", false)
def tyX4 : Nat → FieldType := fun k => match k with
  | 0 => .array .int
  | 1 => .array .int
  | _ => .int
abbrev wsX40 : List Cond := u_ws RX4 TX4 3
theorem nmX4 : ∀ a, a < 3 → ∀ b, b < 3 → a ≠ b → (TX4 a).2.1 ≠ (TX4 b).2.1 := by decide +kernel
theorem tyX4_ok : ∀ k, k < 3 → parseFieldDescriptor (TX4 k).2.2.1 = some (tyX4 k) := by decide +kernel
abbrev cX4_init : ByteArray := prog_6_method_1_code
def yX4_init : MethodName := ⟨RX4, "<init>", "()V"⟩
abbrev cX4_copy : ByteArray := prog_6_method_2_code
def yX4_copy : MethodName := ⟨RX4, "copy", "(LDelveKeep$Lamps;)V"⟩
abbrev cX4_add : ByteArray := prog_6_method_3_code
def yX4_add : MethodName := ⟨RX4, "add", "(II)I"⟩
def RX5 : String := "DelveKeep$Log"
def TX5 : u_T := fun k => match k with
  | 0 => ("DelveKeep$Log", "deed", "[I", true)
  | 1 => ("DelveKeep$Log", "first", "[I", true)
  | 2 => ("DelveKeep$Log", "second", "[I", true)
  | _ => ("DelveKeep$Log", "count", "I", false)
def tyX5 : Nat → FieldType := fun k => match k with
  | 0 => .array .int
  | 1 => .array .int
  | 2 => .array .int
  | _ => .int
abbrev wsX50 : List Cond := u_ws RX5 TX5 4
theorem nmX5 : ∀ a, a < 4 → ∀ b, b < 4 → a ≠ b → (TX5 a).2.1 ≠ (TX5 b).2.1 := by decide +kernel
theorem tyX5_ok : ∀ k, k < 4 → parseFieldDescriptor (TX5 k).2.2.1 = some (tyX5 k) := by decide +kernel
abbrev cX5_init : ByteArray := prog_7_method_1_code
def yX5_init : MethodName := ⟨RX5, "<init>", "()V"⟩
abbrev cX5_add : ByteArray := prog_7_method_2_code
def yX5_add : MethodName := ⟨RX5, "add", "(III)V"⟩
def RX6 : String := "DelveKeep$Things"
def TX6 : u_T := fun k => match k with
  | 0 => ("DelveKeep$Things", "kind", "[I", true)
  | 1 => ("DelveKeep$Things", "place", "[I", true)
  | _ => ("DelveKeep$Things", "count", "I", false)
def tyX6 : Nat → FieldType := fun k => match k with
  | 0 => .array .int
  | 1 => .array .int
  | _ => .int
abbrev wsX60 : List Cond := u_ws RX6 TX6 3
theorem nmX6 : ∀ a, a < 3 → ∀ b, b < 3 → a ≠ b → (TX6 a).2.1 ≠ (TX6 b).2.1 := by decide +kernel
theorem tyX6_ok : ∀ k, k < 3 → parseFieldDescriptor (TX6 k).2.2.1 = some (tyX6 k) := by decide +kernel
abbrev cX6_init : ByteArray := prog_8_method_1_code
def yX6_init : MethodName := ⟨RX6, "<init>", "()V"⟩
abbrev cX6_copy : ByteArray := prog_8_method_2_code
def yX6_copy : MethodName := ⟨RX6, "copy", "(LDelveKeep$Things;)V"⟩
abbrev cX6_add : ByteArray := prog_8_method_3_code
def yX6_add : MethodName := ⟨RX6, "add", "(II)I"⟩
abbrev cX6_bagOf : ByteArray := prog_8_method_4_code
def yX6_bagOf : MethodName := ⟨RX6, "bagOf", "(I)I"⟩
abbrev cX6_isWithin : ByteArray := prog_8_method_5_code
def yX6_isWithin : MethodName := ⟨RX6, "isWithin", "(II)Z"⟩
abbrev cX6_outerPlace : ByteArray := prog_8_method_6_code
def yX6_outerPlace : MethodName := ⟨RX6, "outerPlace", "(I)I"⟩
abbrev cX6_wholeWeight : ByteArray := prog_8_method_7_code
def yX6_wholeWeight : MethodName := ⟨RX6, "wholeWeight", "(ILDelveKeep$Kinds;)I"⟩
abbrev cX6_carriedWeight : ByteArray := prog_8_method_8_code
def yX6_carriedWeight : MethodName := ⟨RX6, "carriedWeight", "(LDelveKeep$Kinds;)I"⟩
abbrev cX6_countAt : ByteArray := prog_8_method_9_code
def yX6_countAt : MethodName := ⟨RX6, "countAt", "(I)I"⟩
abbrev cX6_moveAll : ByteArray := prog_8_method_10_code
def yX6_moveAll : MethodName := ⟨RX6, "moveAll", "(II)V"⟩
abbrev cX6_hasInHands : ByteArray := prog_8_method_11_code
def yX6_hasInHands : MethodName := ⟨RX6, "hasInHands", "(I)Z"⟩
abbrev cX6_isCarriedKey : ByteArray := prog_8_method_13_code
def yX6_isCarriedKey : MethodName := ⟨RX6, "isCarriedKey", "(I)Z"⟩
abbrev cX6_isLike : ByteArray := prog_8_method_14_code
def yX6_isLike : MethodName := ⟨RX6, "isLike", "(LDelveKeep$Things;)Z"⟩
def RX7 : String := "DelveKeep$World"
def TX7 : u_T := fun k => match k with
  | 0 => ("DelveKeep$World", "cave", "LDelveKeep$Cave;", true)
  | 1 => ("DelveKeep$World", "kinds", "LDelveKeep$Kinds;", true)
  | 2 => ("DelveKeep$World", "creatures", "LDelveKeep$Creatures;", true)
  | 3 => ("DelveKeep$World", "things", "LDelveKeep$Things;", true)
  | 4 => ("DelveKeep$World", "lamps", "LDelveKeep$Lamps;", true)
  | 5 => ("DelveKeep$World", "ticks", "I", false)
  | 6 => ("DelveKeep$World", "order", "I", false)
  | 7 => ("DelveKeep$World", "temper", "I", false)
  | 8 => ("DelveKeep$World", "blindFor", "I", false)
  | _ => ("DelveKeep$World", "known", "I", false)
def tyX7 : Nat → FieldType := fun k => match k with
  | 0 => .object "DelveKeep$Cave"
  | 1 => .object "DelveKeep$Kinds"
  | 2 => .object "DelveKeep$Creatures"
  | 3 => .object "DelveKeep$Things"
  | 4 => .object "DelveKeep$Lamps"
  | 5 => .int
  | 6 => .int
  | 7 => .int
  | 8 => .int
  | _ => .int
abbrev wsX70 : List Cond := u_ws RX7 TX7 10
theorem nmX7 : ∀ a, a < 10 → ∀ b, b < 10 → a ≠ b → (TX7 a).2.1 ≠ (TX7 b).2.1 := by decide +kernel
theorem tyX7_ok : ∀ k, k < 10 → parseFieldDescriptor (TX7 k).2.2.1 = some (tyX7 k) := by decide +kernel
abbrev cX7_init : ByteArray := prog_9_method_1_code
def yX7_init : MethodName := ⟨RX7, "<init>", "()V"⟩
abbrev cX7_copy : ByteArray := prog_9_method_2_code
def yX7_copy : MethodName := ⟨RX7, "copy", "(LDelveKeep$World;)V"⟩
abbrev cX7_heroSpot : ByteArray := prog_9_method_3_code
def yX7_heroSpot : MethodName := ⟨RX7, "heroSpot", "()I"⟩
abbrev cX7_allStandFree : ByteArray := prog_9_method_4_code
def yX7_allStandFree : MethodName := ⟨RX7, "allStandFree", "()Z"⟩
abbrev cX7_isLike : ByteArray := prog_9_method_8_code
def yX7_isLike : MethodName := ⟨RX7, "isLike", "(LDelveKeep$World;)Z"⟩
abbrev cX7_perform : ByteArray := prog_9_method_9_code
def yX7_perform : MethodName := ⟨RX7, "perform", "(III)I"⟩
abbrev cX7_heroGoes : ByteArray := prog_9_method_10_code
def yX7_heroGoes : MethodName := ⟨RX7, "heroGoes", "(I)I"⟩
abbrev cX7_strike : ByteArray := prog_9_method_11_code
def yX7_strike : MethodName := ⟨RX7, "strike", "(II)V"⟩
abbrev cX7_heroPacks : ByteArray := prog_9_method_12_code
def yX7_heroPacks : MethodName := ⟨RX7, "heroPacks", "(II)I"⟩
abbrev cX7_heroDrinks : ByteArray := prog_9_method_13_code
def yX7_heroDrinks : MethodName := ⟨RX7, "heroDrinks", "(I)I"⟩
abbrev cX7_heroHurls : ByteArray := prog_9_method_14_code
def yX7_heroHurls : MethodName := ⟨RX7, "heroHurls", "(II)I"⟩
abbrev cX7_shatter : ByteArray := prog_9_method_15_code
def yX7_shatter : MethodName := ⟨RX7, "shatter", "(II)V"⟩
abbrev cX7_useUp : ByteArray := prog_9_method_16_code
def yX7_useUp : MethodName := ⟨RX7, "useUp", "(I)V"⟩
abbrev cX7_work : ByteArray := prog_9_method_17_code
def yX7_work : MethodName := ⟨RX7, "work", "(II)V"⟩
abbrev cX7_burnBy : ByteArray := prog_9_method_18_code
def yX7_burnBy : MethodName := ⟨RX7, "burnBy", "(III)V"⟩
abbrev cX7_heroPrays : ByteArray := prog_9_method_19_code
def yX7_heroPrays : MethodName := ⟨RX7, "heroPrays", "()I"⟩
abbrev cX7_layHands : ByteArray := prog_9_method_20_code
def yX7_layHands : MethodName := ⟨RX7, "layHands", "()V"⟩
abbrev cX7_waitForHero : ByteArray := prog_9_method_21_code
def yX7_waitForHero : MethodName := ⟨RX7, "waitForHero", "()V"⟩
abbrev cX7_moveBeast : ByteArray := prog_9_method_22_code
def yX7_moveBeast : MethodName := ⟨RX7, "moveBeast", "(I)V"⟩
abbrev cX7_flee : ByteArray := prog_9_method_23_code
def yX7_flee : MethodName := ⟨RX7, "flee", "(I)V"⟩
abbrev cX7_comeNearer : ByteArray := prog_9_method_24_code
def yX7_comeNearer : MethodName := ⟨RX7, "comeNearer", "(I)V"⟩
abbrev cX7_isOpenTo : ByteArray := prog_9_method_25_code
def yX7_isOpenTo : MethodName := ⟨RX7, "isOpenTo", "(I)Z"⟩
abbrev cX7_makeNoise : ByteArray := prog_9_method_26_code
def yX7_makeNoise : MethodName := ⟨RX7, "makeNoise", "(II)I"⟩
def RX8 : String := "DelveKeep"
def TX8 : u_T := fun k => match k with
  | 0 => ("DelveKeep", "told", "LDelveKeep$World;", true)
  | 1 => ("DelveKeep", "now", "LDelveKeep$World;", true)
  | 2 => ("DelveKeep", "again", "LDelveKeep$World;", true)
  | 3 => ("DelveKeep", "log", "LDelveKeep$Log;", true)
  | 4 => ("DelveKeep", "bones", "LDelveKeep$Bones;", true)
  | 5 => ("DelveKeep", "standing", "C", false)
  | _ => ("DelveKeep", "redone", "I", false)
def tyX8 : Nat → FieldType := fun k => match k with
  | 0 => .object "DelveKeep$World"
  | 1 => .object "DelveKeep$World"
  | 2 => .object "DelveKeep$World"
  | 3 => .object "DelveKeep$Log"
  | 4 => .object "DelveKeep$Bones"
  | 5 => .char
  | _ => .int
abbrev wsX80 : List Cond := u_ws RX8 TX8 7
theorem nmX8 : ∀ a, a < 7 → ∀ b, b < 7 → a ≠ b → (TX8 a).2.1 ≠ (TX8 b).2.1 := by decide +kernel
theorem tyX8_ok : ∀ k, k < 7 → parseFieldDescriptor (TX8 k).2.2.1 = some (tyX8 k) := by decide +kernel
abbrev cX8_init : ByteArray := prog_1_method_1_code
def yX8_init : MethodName := ⟨RX8, "<init>", "()V"⟩
abbrev cX8_dig : ByteArray := prog_1_method_2_code
def yX8_dig : MethodName := ⟨RX8, "dig", "(IIC)C"⟩
abbrev cX8_setKind : ByteArray := prog_1_method_3_code
def yX8_setKind : MethodName := ⟨RX8, "setKind", "(IIZ)I"⟩
abbrev cX8_setEffect : ByteArray := prog_1_method_4_code
def yX8_setEffect : MethodName := ⟨RX8, "setEffect", "(ICII)C"⟩
abbrev cX8_setHero : ByteArray := prog_1_method_5_code
def yX8_setHero : MethodName := ⟨RX8, "setHero", "(IIII)I"⟩
abbrev cX8_addBeast : ByteArray := prog_1_method_6_code
def yX8_addBeast : MethodName := ⟨RX8, "addBeast", "(IIIII)I"⟩
abbrev cX8_addThing : ByteArray := prog_1_method_7_code
def yX8_addThing : MethodName := ⟨RX8, "addThing", "(IIII)I"⟩
abbrev cX8_addLamp : ByteArray := prog_1_method_8_code
def yX8_addLamp : MethodName := ⟨RX8, "addLamp", "(III)I"⟩
abbrev cX8_begin : ByteArray := prog_1_method_9_code
def yX8_begin : MethodName := ⟨RX8, "begin", "(I)I"⟩
abbrev cX8_go : ByteArray := prog_1_method_11_code
def yX8_go : MethodName := ⟨RX8, "go", "(I)C"⟩
abbrev cX8_rest : ByteArray := prog_1_method_12_code
def yX8_rest : MethodName := ⟨RX8, "rest", "()I"⟩
abbrev cX8_take : ByteArray := prog_1_method_13_code
def yX8_take : MethodName := ⟨RX8, "take", "(I)I"⟩
abbrev cX8_drop : ByteArray := prog_1_method_14_code
def yX8_drop : MethodName := ⟨RX8, "drop", "(I)I"⟩
abbrev cX8_pack : ByteArray := prog_1_method_15_code
def yX8_pack : MethodName := ⟨RX8, "pack", "(II)I"⟩
abbrev cX8_drink : ByteArray := prog_1_method_16_code
def yX8_drink : MethodName := ⟨RX8, "drink", "(I)I"⟩
abbrev cX8_hurl : ByteArray := prog_1_method_17_code
def yX8_hurl : MethodName := ⟨RX8, "hurl", "(II)I"⟩
abbrev cX8_shout : ByteArray := prog_1_method_18_code
def yX8_shout : MethodName := ⟨RX8, "shout", "(I)I"⟩
abbrev cX8_pray : ByteArray := prog_1_method_19_code
def yX8_pray : MethodName := ⟨RX8, "pray", "()I"⟩
abbrev cX8_state : ByteArray := prog_1_method_20_code
def yX8_state : MethodName := ⟨RX8, "state", "()C"⟩
abbrev cX8_tick : ByteArray := prog_1_method_21_code
def yX8_tick : MethodName := ⟨RX8, "tick", "()I"⟩
abbrev cX8_cell : ByteArray := prog_1_method_22_code
def yX8_cell : MethodName := ⟨RX8, "cell", "(II)C"⟩
abbrev cX8_placeOf : ByteArray := prog_1_method_25_code
def yX8_placeOf : MethodName := ⟨RX8, "placeOf", "(I)I"⟩
abbrev cX8_healthOf : ByteArray := prog_1_method_26_code
def yX8_healthOf : MethodName := ⟨RX8, "healthOf", "(I)I"⟩
abbrev cX8_whereIs : ByteArray := prog_1_method_28_code
def yX8_whereIs : MethodName := ⟨RX8, "whereIs", "(I)I"⟩
abbrev cX8_weightOf : ByteArray := prog_1_method_29_code
def yX8_weightOf : MethodName := ⟨RX8, "weightOf", "(I)I"⟩
abbrev cX8_isSame : ByteArray := prog_1_method_32_code
def yX8_isSame : MethodName := ⟨RX8, "isSame", "()Z"⟩
abbrev cX8_shown : ByteArray := prog_1_method_35_code
def yX8_shown : MethodName := ⟨RX8, "shown", "()LDelveKeep$World;"⟩
abbrev cX8_make : ByteArray := prog_1_method_36_code
def yX8_make : MethodName := ⟨RX8, "make", "(LDelveKeep$World;I)V"⟩
abbrev cX8_act : ByteArray := prog_1_method_37_code
def yX8_act : MethodName := ⟨RX8, "act", "(III)I"⟩
abbrev cX8_settle : ByteArray := prog_1_method_38_code
def yX8_settle : MethodName := ⟨RX8, "settle", "()V"⟩
abbrev cX8_redo : ByteArray := prog_1_method_39_code
def yX8_redo : MethodName := ⟨RX8, "redo", "()V"⟩
abbrev cX8_checkNoWorld : ByteArray := prog_1_method_40_code
def yX8_checkNoWorld : MethodName := ⟨RX8, "checkNoWorld", "()V"⟩
abbrev cX8_checkWorld : ByteArray := prog_1_method_41_code
def yX8_checkWorld : MethodName := ⟨RX8, "checkWorld", "()V"⟩
abbrev cX8_checkThing : ByteArray := prog_1_method_42_code
def yX8_checkThing : MethodName := ⟨RX8, "checkThing", "(I)V"⟩
abbrev cX8_checkBag : ByteArray := prog_1_method_43_code
def yX8_checkBag : MethodName := ⟨RX8, "checkBag", "(I)V"⟩
abbrev cX8_checkInHands : ByteArray := prog_1_method_44_code
def yX8_checkInHands : MethodName := ⟨RX8, "checkInHands", "(I)V"⟩
abbrev cX8_checkCarried : ByteArray := prog_1_method_45_code
def yX8_checkCarried : MethodName := ⟨RX8, "checkCarried", "(I)V"⟩
abbrev cX8_checkCreature : ByteArray := prog_1_method_46_code
def yX8_checkCreature : MethodName := ⟨RX8, "checkCreature", "(II)V"⟩
abbrev cX8_checkRoom : ByteArray := prog_1_method_47_code
def yX8_checkRoom : MethodName := ⟨RX8, "checkRoom", "(II)V"⟩
abbrev cX8_checkPlace : ByteArray := prog_1_method_48_code
def yX8_checkPlace : MethodName := ⟨RX8, "checkPlace", "(II)V"⟩
abbrev cX8_checkWay : ByteArray := prog_1_method_49_code
def yX8_checkWay : MethodName := ⟨RX8, "checkWay", "(I)V"⟩
abbrev cX8_checkRange : ByteArray := prog_1_method_50_code
def yX8_checkRange : MethodName := ⟨RX8, "checkRange", "(III)V"⟩
abbrev cX8_spot : ByteArray := prog_1_method_51_code
def yX8_spot : MethodName := ⟨RX8, "spot", "(II)I"⟩
abbrev cX8_shownPlace : ByteArray := prog_1_method_52_code
def yX8_shownPlace : MethodName := ⟨RX8, "shownPlace", "(I)I"⟩
abbrev cX8_beside : ByteArray := prog_1_method_53_code
def yX8_beside : MethodName := ⟨RX8, "beside", "(II)I"⟩
abbrev cX8_areNeighbours : ByteArray := prog_1_method_54_code
def yX8_areNeighbours : MethodName := ⟨RX8, "areNeighbours", "(II)Z"⟩
abbrev cX8_gap : ByteArray := prog_1_method_55_code
def yX8_gap : MethodName := ⟨RX8, "gap", "(II)I"⟩
abbrev cX8_isPotion : ByteArray := prog_1_method_56_code
def yX8_isPotion : MethodName := ⟨RX8, "isPotion", "(I)Z"⟩
abbrev cX8_isFree : ByteArray := prog_1_method_57_code
def yX8_isFree : MethodName := ⟨RX8, "isFree", "(C)Z"⟩
abbrev cX8_at : ByteArray := prog_1_method_58_code
def yX8_at : MethodName := ⟨RX8, "at", "([II)I"⟩
abbrev cX8_put : ByteArray := prog_1_method_59_code
def yX8_put : MethodName := ⟨RX8, "put", "([III)V"⟩
abbrev cX8_copyRow : ByteArray := prog_1_method_60_code
def yX8_copyRow : MethodName := ⟨RX8, "copyRow", "([I[I)V"⟩
def RX9 : String := "DelveKeepModel"
def TX9 : u_T := fun k => match k with
  | _ => ("", "", "", false)
def tyX9 : Nat → FieldType := fun k => match k with
  | _ => .int
abbrev wsX90 : List Cond := u_ws RX9 TX9 0
theorem nmX9 : ∀ a, a < 0 → ∀ b, b < 0 → a ≠ b → (TX9 a).2.1 ≠ (TX9 b).2.1 := by decide +kernel
theorem tyX9_ok : ∀ k, k < 0 → parseFieldDescriptor (TX9 k).2.2.1 = some (tyX9 k) := by decide +kernel
def RJx145de : String := "java/io/Serializable"
def TJx145de : u_T := fun k => match k with
  | _ => ("", "", "", false)
def tyJx145de : Nat → FieldType := fun k => match k with
  | _ => .int
abbrev wsJx145de0 : List Cond := u_ws RJx145de TJx145de 0
theorem nmJx145de : ∀ a, a < 0 → ∀ b, b < 0 → a ≠ b → (TJx145de a).2.1 ≠ (TJx145de b).2.1 := by decide +kernel
theorem tyJx145de_ok : ∀ k, k < 0 → parseFieldDescriptor (TJx145de k).2.2.1 = some (tyJx145de k) := by decide +kernel
def RJx9f9b0 : String := "java/lang/CharSequence"
def TJx9f9b0 : u_T := fun k => match k with
  | _ => ("", "", "", false)
def tyJx9f9b0 : Nat → FieldType := fun k => match k with
  | _ => .int
abbrev wsJx9f9b00 : List Cond := u_ws RJx9f9b0 TJx9f9b0 0
theorem nmJx9f9b0 : ∀ a, a < 0 → ∀ b, b < 0 → a ≠ b → (TJx9f9b0 a).2.1 ≠ (TJx9f9b0 b).2.1 := by decide +kernel
theorem tyJx9f9b0_ok : ∀ k, k < 0 → parseFieldDescriptor (TJx9f9b0 k).2.2.1 = some (tyJx9f9b0 k) := by decide +kernel
def RJ11 : String := "java/lang/Character"
def TJ11 : u_T := fun k => match k with
  | _ => ("", "", "", false)
def tyJ11 : Nat → FieldType := fun k => match k with
  | _ => .int
abbrev wsJ110 : List Cond := u_ws RJ11 TJ11 0
theorem nmJ11 : ∀ a, a < 0 → ∀ b, b < 0 → a ≠ b → (TJ11 a).2.1 ≠ (TJ11 b).2.1 := by decide +kernel
theorem tyJ11_ok : ∀ k, k < 0 → parseFieldDescriptor (TJ11 k).2.2.1 = some (tyJ11 k) := by decide +kernel
abbrev cJ11_isValidCodePoint_9a6ad : ByteArray := prog_14_method_11_code
def yJ11_isValidCodePoint_9a6ad : MethodName := ⟨RJ11, "isValidCodePoint", "(I)Z"⟩
abbrev cJ11_highSurrogate_5068e : ByteArray := prog_14_method_28_code
def yJ11_highSurrogate_5068e : MethodName := ⟨RJ11, "highSurrogate", "(I)C"⟩
abbrev cJ11_lowSurrogate_5068e : ByteArray := prog_14_method_29_code
def yJ11_lowSurrogate_5068e : MethodName := ⟨RJ11, "lowSurrogate", "(I)C"⟩
def RJxb160c : String := "java/lang/Comparable"
def TJxb160c : u_T := fun k => match k with
  | _ => ("", "", "", false)
def tyJxb160c : Nat → FieldType := fun k => match k with
  | _ => .int
abbrev wsJxb160c0 : List Cond := u_ws RJxb160c TJxb160c 0
theorem nmJxb160c : ∀ a, a < 0 → ∀ b, b < 0 → a ≠ b → (TJxb160c a).2.1 ≠ (TJxb160c b).2.1 := by decide +kernel
theorem tyJxb160c_ok : ∀ k, k < 0 → parseFieldDescriptor (TJxb160c k).2.2.1 = some (tyJxb160c k) := by decide +kernel
def RJ9 : String := "java/lang/Math"
def TJ9 : u_T := fun k => match k with
  | _ => ("", "", "", false)
def tyJ9 : Nat → FieldType := fun k => match k with
  | _ => .int
abbrev wsJ90 : List Cond := u_ws RJ9 TJ9 0
theorem nmJ9 : ∀ a, a < 0 → ∀ b, b < 0 → a ≠ b → (TJ9 a).2.1 ≠ (TJ9 b).2.1 := by decide +kernel
theorem tyJ9_ok : ∀ k, k < 0 → parseFieldDescriptor (TJ9 k).2.2.1 = some (tyJ9 k) := by decide +kernel
abbrev cJ9_abs_0f7a4 : ByteArray := prog_20_method_59_code
def yJ9_abs_0f7a4 : MethodName := ⟨RJ9, "abs", "(I)I"⟩
abbrev cJ9_max_7cf53 : ByteArray := prog_20_method_65_code
def yJ9_max_7cf53 : MethodName := ⟨RJ9, "max", "(II)I"⟩
abbrev cJ9_min_7cf53 : ByteArray := prog_20_method_69_code
def yJ9_min_7cf53 : MethodName := ⟨RJ9, "min", "(II)I"⟩
def RJ0 : String := "java/lang/String"
def TJ0 : u_T := fun k => match k with
  | _ => ("", "", "", false)
def tyJ0 : Nat → FieldType := fun k => match k with
  | _ => .int
abbrev wsJ00 : List Cond := u_ws RJ0 TJ0 0
theorem nmJ0 : ∀ a, a < 0 → ∀ b, b < 0 → a ≠ b → (TJ0 a).2.1 ≠ (TJ0 b).2.1 := by decide +kernel
theorem tyJ0_ok : ∀ k, k < 0 → parseFieldDescriptor (TJ0 k).2.2.1 = some (tyJ0 k) := by decide +kernel
abbrev cJ0_length_8abf5 : ByteArray := prog_22_method_54_code
def yJ0_length_8abf5 : MethodName := ⟨RJ0, "length", "()I"⟩
abbrev cJ0_charAt_5068e : ByteArray := prog_22_method_56_code
def yJ0_charAt_5068e : MethodName := ⟨RJ0, "charAt", "(I)C"⟩
abbrev cJ0_indexOf_0f7a4 : ByteArray := prog_22_method_79_code
def yJ0_indexOf_0f7a4 : MethodName := ⟨RJ0, "indexOf", "(I)I"⟩
abbrev cJ0_indexOf_7cf53 : ByteArray := prog_22_method_80_code
def yJ0_indexOf_7cf53 : MethodName := ⟨RJ0, "indexOf", "(II)I"⟩
abbrev cJ0_coder_7d493 : ByteArray := prog_22_method_152_code
def yJ0_coder_7d493 : MethodName := ⟨RJ0, "coder", "()B"⟩
abbrev cJ0_isLatin1_aae02 : ByteArray := prog_22_method_154_code
def yJ0_isLatin1_aae02 : MethodName := ⟨RJ0, "isLatin1", "()Z"⟩
abbrev cJ0_checkIndex_df160 : ByteArray := prog_22_method_155_code
def yJ0_checkIndex_df160 : MethodName := ⟨RJ0, "checkIndex", "(II)V"⟩
abbrev cJ0_checkBoundsBeginEnd_23922 : ByteArray := prog_22_method_158_code
def yJ0_checkBoundsBeginEnd_23922 : MethodName := ⟨RJ0, "checkBoundsBeginEnd", "(III)V"⟩
def RJ1 : String := "java/lang/StringLatin1"
def TJ1 : u_T := fun k => match k with
  | _ => ("", "", "", false)
def tyJ1 : Nat → FieldType := fun k => match k with
  | _ => .int
abbrev wsJ10 : List Cond := u_ws RJ1 TJ1 0
theorem nmJ1 : ∀ a, a < 0 → ∀ b, b < 0 → a ≠ b → (TJ1 a).2.1 ≠ (TJ1 b).2.1 := by decide +kernel
theorem tyJ1_ok : ∀ k, k < 0 → parseFieldDescriptor (TJ1 k).2.2.1 = some (tyJ1 k) := by decide +kernel
abbrev cJ1_charAt_3b067 : ByteArray := prog_23_method_2_code
def yJ1_charAt_3b067 : MethodName := ⟨RJ1, "charAt", "([BI)C"⟩
abbrev cJ1_canEncode_9a6ad : ByteArray := prog_23_method_4_code
def yJ1_canEncode_9a6ad : MethodName := ⟨RJ1, "canEncode", "(I)Z"⟩
abbrev cJ1_indexOf_4cfef : ByteArray := prog_23_method_22_code
def yJ1_indexOf_4cfef : MethodName := ⟨RJ1, "indexOf", "([BIII)I"⟩
abbrev cJ1_indexOfChar_4cfef : ByteArray := prog_23_method_23_code
def yJ1_indexOfChar_4cfef : MethodName := ⟨RJ1, "indexOfChar", "([BIII)I"⟩
def RJ2 : String := "java/lang/StringUTF16"
def TJ2 : u_T := fun k => match k with
  | _ => ("", "", "", false)
def tyJ2 : Nat → FieldType := fun k => match k with
  | _ => .int
abbrev wsJ20 : List Cond := u_ws RJ2 TJ2 0
theorem nmJ2 : ∀ a, a < 0 → ∀ b, b < 0 → a ≠ b → (TJ2 a).2.1 ≠ (TJ2 b).2.1 := by decide +kernel
theorem tyJ2_ok : ∀ k, k < 0 → parseFieldDescriptor (TJ2 k).2.2.1 = some (tyJ2 k) := by decide +kernel
abbrev cJ2_getChar_3b067 : ByteArray := prog_24_method_5_code
def yJ2_getChar_3b067 : MethodName := ⟨RJ2, "getChar", "([BI)C"⟩
abbrev cJ2_length_9d52b : ByteArray := prog_24_method_6_code
def yJ2_length_9d52b : MethodName := ⟨RJ2, "length", "([B)I"⟩
abbrev cJ2_indexOf_4cfef : ByteArray := prog_24_method_40_code
def yJ2_indexOf_4cfef : MethodName := ⟨RJ2, "indexOf", "([BIII)I"⟩
abbrev cJ2_indexOfChar_4cfef : ByteArray := prog_24_method_47_code
def yJ2_indexOfChar_4cfef : MethodName := ⟨RJ2, "indexOfChar", "([BIII)I"⟩
abbrev cJ2_indexOfCharUnsafe_4cfef : ByteArray := prog_24_method_48_code
def yJ2_indexOfCharUnsafe_4cfef : MethodName := ⟨RJ2, "indexOfCharUnsafe", "([BIII)I"⟩
abbrev cJ2_indexOfSupplementary_4cfef : ByteArray := prog_24_method_49_code
def yJ2_indexOfSupplementary_4cfef : MethodName := ⟨RJ2, "indexOfSupplementary", "([BIII)I"⟩
abbrev cJ2_charAt_3b067 : ByteArray := prog_24_method_83_code
def yJ2_charAt_3b067 : MethodName := ⟨RJ2, "charAt", "([BI)C"⟩
abbrev cJ2_checkIndex_2214a : ByteArray := prog_24_method_91_code
def yJ2_checkIndex_2214a : MethodName := ⟨RJ2, "checkIndex", "(I[B)V"⟩
abbrev cJ2_checkBoundsBeginEnd_d044e : ByteArray := prog_24_method_93_code
def yJ2_checkBoundsBeginEnd_d044e : MethodName := ⟨RJ2, "checkBoundsBeginEnd", "(II[B)V"⟩
def RJ10 : String := "java/lang/System"
def TJ10 : u_T := fun k => match k with
  | _ => ("", "", "", false)
def tyJ10 : Nat → FieldType := fun k => match k with
  | _ => .int
abbrev wsJ100 : List Cond := u_ws RJ10 TJ10 0
theorem nmJ10 : ∀ a, a < 0 → ∀ b, b < 0 → a ≠ b → (TJ10 a).2.1 ≠ (TJ10 b).2.1 := by decide +kernel
theorem tyJ10_ok : ∀ k, k < 0 → parseFieldDescriptor (TJ10 k).2.2.1 = some (tyJ10 k) := by decide +kernel
def RJxfd54e : String := "java/lang/constant/Constable"
def TJxfd54e : u_T := fun k => match k with
  | _ => ("", "", "", false)
def tyJxfd54e : Nat → FieldType := fun k => match k with
  | _ => .int
abbrev wsJxfd54e0 : List Cond := u_ws RJxfd54e TJxfd54e 0
theorem nmJxfd54e : ∀ a, a < 0 → ∀ b, b < 0 → a ≠ b → (TJxfd54e a).2.1 ≠ (TJxfd54e b).2.1 := by decide +kernel
theorem tyJxfd54e_ok : ∀ k, k < 0 → parseFieldDescriptor (TJxfd54e k).2.2.1 = some (tyJxfd54e k) := by decide +kernel
def RJx3cf43 : String := "java/lang/constant/ConstantDesc"
def TJx3cf43 : u_T := fun k => match k with
  | _ => ("", "", "", false)
def tyJx3cf43 : Nat → FieldType := fun k => match k with
  | _ => .int
abbrev wsJx3cf430 : List Cond := u_ws RJx3cf43 TJx3cf43 0
theorem nmJx3cf43 : ∀ a, a < 0 → ∀ b, b < 0 → a ≠ b → (TJx3cf43 a).2.1 ≠ (TJx3cf43 b).2.1 := by decide +kernel
theorem tyJx3cf43_ok : ∀ k, k < 0 → parseFieldDescriptor (TJx3cf43 k).2.2.1 = some (tyJx3cf43 k) := by decide +kernel
def RJ7 : String := "java/util/Arrays"
def TJ7 : u_T := fun k => match k with
  | _ => ("", "", "", false)
def tyJ7 : Nat → FieldType := fun k => match k with
  | _ => .int
abbrev wsJ70 : List Cond := u_ws RJ7 TJ7 0
theorem nmJ7 : ∀ a, a < 0 → ∀ b, b < 0 → a ≠ b → (TJ7 a).2.1 ≠ (TJ7 b).2.1 := by decide +kernel
theorem tyJ7_ok : ∀ k, k < 0 → parseFieldDescriptor (TJ7 k).2.2.1 = some (tyJ7 k) := by decide +kernel
abbrev cJ7_fill_53178 : ByteArray := prog_30_method_103_code
def yJ7_fill_53178 : MethodName := ⟨RJ7, "fill", "([II)V"⟩
def RJ3 : String := "jdk/internal/util/Preconditions"
def TJ3 : u_T := fun k => match k with
  | _ => ("", "", "", false)
def tyJ3 : Nat → FieldType := fun k => match k with
  | _ => .int
abbrev wsJ30 : List Cond := u_ws RJ3 TJ3 0
theorem nmJ3 : ∀ a, a < 0 → ∀ b, b < 0 → a ≠ b → (TJ3 a).2.1 ≠ (TJ3 b).2.1 := by decide +kernel
theorem tyJ3_ok : ∀ k, k < 0 → parseFieldDescriptor (TJ3 k).2.2.1 = some (tyJ3 k) := by decide +kernel
abbrev cJ3_checkIndex_8e157 : ByteArray := prog_32_method_11_code
def yJ3_checkIndex_8e157 : MethodName := ⟨RJ3, "checkIndex", "(IILjava/util/function/BiFunction;)I"⟩
abbrev cJ3_checkFromToIndex_8c36e : ByteArray := prog_32_method_12_code
def yJ3_checkFromToIndex_8c36e : MethodName := ⟨RJ3, "checkFromToIndex", "(IIILjava/util/function/BiFunction;)I"⟩
def RL : String := "DelveKeepLaw"
abbrev cL_cell : ByteArray := method_2_code
def yL_cell : MethodName := ⟨RL, "cell", "([II)I"⟩
abbrev cL_low : ByteArray := method_3_code
def yL_low : MethodName := ⟨RL, "low", "(II)I"⟩
abbrev cL_tells : ByteArray := method_4_code
def yL_tells : MethodName := ⟨RL, "tells", "(LDelveKeep;[I)V"⟩
abbrev cL_beasts : ByteArray := method_5_code
def yL_beasts : MethodName := ⟨RL, "beasts", "([I)I"⟩
abbrev cL_begin : ByteArray := method_6_code
def yL_begin : MethodName := ⟨RL, "begin", "(LDelveKeep;I)I"⟩
abbrev cL_act : ByteArray := method_7_code
def yL_act : MethodName := ⟨RL, "act", "(LDelveKeep;I)I"⟩
abbrev cL_areApart : ByteArray := method_8_code
def yL_areApart : MethodName := ⟨RL, "areApart", "(LDelveKeep;I)Z"⟩
abbrev cL_areThings : ByteArray := method_9_code
def yL_areThings : MethodName := ⟨RL, "areThings", "(LDelveKeep;)Z"⟩
abbrev cL_areAlike : ByteArray := method_10_code
def yL_areAlike : MethodName := ⟨RL, "areAlike", "(LDelveKeep;LDelveKeep;I)Z"⟩
abbrev cL_plays : ByteArray := method_11_code
def yL_plays : MethodName := ⟨RL, "plays", "(LDelveKeep;LDelveKeep;[III)Z"⟩
abbrev cL_isFound : ByteArray := method_12_code
def yL_isFound : MethodName := ⟨RL, "isFound", "(LDelveKeep;[II)Z"⟩
abbrev cL_law : ByteArray := code
def yL_law : MethodName := ⟨RL, "law", "([I)Z"⟩
