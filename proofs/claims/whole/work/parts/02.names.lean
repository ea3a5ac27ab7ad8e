/-! ===== BEGIN printed: names, fields, word lists, decode rows ===== -/
def RX0 : String := "RumourCustoms$Carrier"
def TX0 : u_T := fun k => match k with
  | 0 => ("RumourCustoms$Carrier", "number", "I", true)
  | 1 => ("RumourCustoms$Carrier", "town", "I", false)
  | 2 => ("RumourCustoms$Carrier", "hoursLeft", "I", false)
  | 3 => ("RumourCustoms$Carrier", "purse", "I", false)
  | _ => ("RumourCustoms$Carrier", "paid", "I", false)
def tyX0 : Nat → FieldType := fun k => match k with
  | 0 => .int
  | 1 => .int
  | 2 => .int
  | 3 => .int
  | _ => .int
abbrev wsX00 : List Cond := u_ws RX0 TX0 5
theorem nmX0 : ∀ a, a < 5 → ∀ b, b < 5 → a ≠ b → (TX0 a).2.1 ≠ (TX0 b).2.1 := by decide +kernel
theorem tyX0_ok : ∀ k, k < 5 → parseFieldDescriptor (TX0 k).2.2.1 = some (tyX0 k) := by decide +kernel
abbrev cX0_init : ByteArray := prog_2_method_1_code
def yX0_init : MethodName := ⟨RX0, "<init>", "(III)V"⟩
abbrev cX0_isOnTheWay : ByteArray := prog_2_method_2_code
def yX0_isOnTheWay : MethodName := ⟨RX0, "isOnTheWay", "()Z"⟩
abbrev cX0_pay : ByteArray := prog_2_method_3_code
def yX0_pay : MethodName := ⟨RX0, "pay", "(I)V"⟩
abbrev cX0_setOut : ByteArray := prog_2_method_4_code
def yX0_setOut : MethodName := ⟨RX0, "setOut", "(II)V"⟩
abbrev cX0_comesWithin : ByteArray := prog_2_method_5_code
def yX0_comesWithin : MethodName := ⟨RX0, "comesWithin", "(I)Z"⟩
def RX1 : String := "RumourCustoms$Road"
def TX1 : u_T := fun k => match k with
  | 0 => ("RumourCustoms$Road", "hours", "I", true)
  | 1 => ("RumourCustoms$Road", "tariff", "I", true)
  | 2 => ("RumourCustoms$Road", "surcharge", "I", true)
  | 3 => ("RumourCustoms$Road", "strictness", "I", true)
  | 4 => ("RumourCustoms$Road", "attention", "I", false)
  | _ => ("RumourCustoms$Road", "paid", "I", false)
def tyX1 : Nat → FieldType := fun k => match k with
  | 0 => .int
  | 1 => .int
  | 2 => .int
  | 3 => .int
  | 4 => .int
  | _ => .int
abbrev wsX10 : List Cond := u_ws RX1 TX1 6
theorem nmX1 : ∀ a, a < 6 → ∀ b, b < 6 → a ≠ b → (TX1 a).2.1 ≠ (TX1 b).2.1 := by decide +kernel
theorem tyX1_ok : ∀ k, k < 6 → parseFieldDescriptor (TX1 k).2.2.1 = some (tyX1 k) := by decide +kernel
abbrev cX1_init : ByteArray := prog_3_method_1_code
def yX1_init : MethodName := ⟨RX1, "<init>", "(IIII)V"⟩
abbrev cX1_dutyOf : ByteArray := prog_3_method_2_code
def yX1_dutyOf : MethodName := ⟨RX1, "dutyOf", "(LRumourCustoms$Rumour;I)I"⟩
abbrev cX1_attentionBehind : ByteArray := prog_3_method_3_code
def yX1_attentionBehind : MethodName := ⟨RX1, "attentionBehind", "(I)I"⟩
abbrev cX1_figure : ByteArray := prog_3_method_4_code
def yX1_figure : MethodName := ⟨RX1, "figure", "(I)I"⟩
def RX2 : String := "RumourCustoms$RoadMap"
def TX2 : u_T := fun k => match k with
  | _ => ("RumourCustoms$RoadMap", "roads", "[LRumourCustoms$Road;", true)
def tyX2 : Nat → FieldType := fun k => match k with
  | _ => .array (.object "RumourCustoms$Road")
abbrev wsX20 : List Cond := u_ws RX2 TX2 1
theorem nmX2 : ∀ a, a < 1 → ∀ b, b < 1 → a ≠ b → (TX2 a).2.1 ≠ (TX2 b).2.1 := by decide +kernel
theorem tyX2_ok : ∀ k, k < 1 → parseFieldDescriptor (TX2 k).2.2.1 = some (tyX2 k) := by decide +kernel
abbrev cX2_init : ByteArray := prog_4_method_1_code
def yX2_init : MethodName := ⟨RX2, "<init>", "()V"⟩
abbrev cX2_put : ByteArray := prog_4_method_2_code
def yX2_put : MethodName := ⟨RX2, "put", "(IILRumourCustoms$Road;)V"⟩
abbrev cX2_between : ByteArray := prog_4_method_3_code
def yX2_between : MethodName := ⟨RX2, "between", "(II)LRumourCustoms$Road;"⟩
abbrev cX2_isOnMap : ByteArray := prog_4_method_4_code
def yX2_isOnMap : MethodName := ⟨RX2, "isOnMap", "(I)Z"⟩
def RX3 : String := "RumourCustoms$Rumour"
def TX3 : u_T := fun k => match k with
  | 0 => ("RumourCustoms$Rumour", "number", "I", true)
  | 1 => ("RumourCustoms$Rumour", "family", "I", true)
  | 2 => ("RumourCustoms$Rumour", "length", "I", true)
  | 3 => ("RumourCustoms$Rumour", "depth", "I", true)
  | 4 => ("RumourCustoms$Rumour", "proofs", "I", false)
  | 5 => ("RumourCustoms$Rumour", "town", "I", false)
  | 6 => ("RumourCustoms$Rumour", "bagOf", "I", false)
  | _ => ("RumourCustoms$Rumour", "isHidden", "Z", false)
def tyX3 : Nat → FieldType := fun k => match k with
  | 0 => .int
  | 1 => .int
  | 2 => .int
  | 3 => .int
  | 4 => .int
  | 5 => .int
  | 6 => .int
  | _ => .boolean
abbrev wsX30 : List Cond := u_ws RX3 TX3 8
theorem nmX3 : ∀ a, a < 8 → ∀ b, b < 8 → a ≠ b → (TX3 a).2.1 ≠ (TX3 b).2.1 := by decide +kernel
theorem tyX3_ok : ∀ k, k < 8 → parseFieldDescriptor (TX3 k).2.2.1 = some (tyX3 k) := by decide +kernel
abbrev cX3_init : ByteArray := prog_5_method_1_code
def yX3_init : MethodName := ⟨RX3, "<init>", "(IIIIII)V"⟩
abbrev cX3_putIntoBag : ByteArray := prog_5_method_2_code
def yX3_putIntoBag : MethodName := ⟨RX3, "putIntoBag", "(LRumourCustoms$Carrier;)V"⟩
abbrev cX3_putIntoTown : ByteArray := prog_5_method_3_code
def yX3_putIntoTown : MethodName := ⟨RX3, "putIntoTown", "(I)V"⟩
abbrev cX3_vanish : ByteArray := prog_5_method_4_code
def yX3_vanish : MethodName := ⟨RX3, "vanish", "()V"⟩
abbrev cX3_move : ByteArray := prog_5_method_5_code
def yX3_move : MethodName := ⟨RX3, "move", "(II)V"⟩
abbrev cX3_isGone : ByteArray := prog_5_method_6_code
def yX3_isGone : MethodName := ⟨RX3, "isGone", "()Z"⟩
abbrev cX3_isInBagOf : ByteArray := prog_5_method_7_code
def yX3_isInBagOf : MethodName := ⟨RX3, "isInBagOf", "(LRumourCustoms$Carrier;)Z"⟩
abbrev cX3_isHiddenBy : ByteArray := prog_5_method_8_code
def yX3_isHiddenBy : MethodName := ⟨RX3, "isHiddenBy", "(LRumourCustoms$Carrier;)Z"⟩
abbrev cX3_isShownBy : ByteArray := prog_5_method_9_code
def yX3_isShownBy : MethodName := ⟨RX3, "isShownBy", "(LRumourCustoms$Carrier;)Z"⟩
abbrev cX3_burnable : ByteArray := prog_5_method_10_code
def yX3_burnable : MethodName := ⟨RX3, "burnable", "(I)I"⟩
abbrev cX3_figure : ByteArray := prog_5_method_11_code
def yX3_figure : MethodName := ⟨RX3, "figure", "(I)I"⟩
def RX4 : String := "RumourCustoms$WaySearch"
def TX4 : u_T := fun k => match k with
  | 0 => ("RumourCustoms$WaySearch", "map", "LRumourCustoms$RoadMap;", true)
  | 1 => ("RumourCustoms$WaySearch", "prices", "[I", true)
  | _ => ("RumourCustoms$WaySearch", "areSettled", "[Z", true)
def tyX4 : Nat → FieldType := fun k => match k with
  | 0 => .object "RumourCustoms$RoadMap"
  | 1 => .array .int
  | _ => .array .boolean
abbrev wsX40 : List Cond := u_ws RX4 TX4 3
theorem nmX4 : ∀ a, a < 3 → ∀ b, b < 3 → a ≠ b → (TX4 a).2.1 ≠ (TX4 b).2.1 := by decide +kernel
theorem tyX4_ok : ∀ k, k < 3 → parseFieldDescriptor (TX4 k).2.2.1 = some (tyX4 k) := by decide +kernel
abbrev cX4_init : ByteArray := prog_6_method_1_code
def yX4_init : MethodName := ⟨RX4, "<init>", "(LRumourCustoms$RoadMap;)V"⟩
abbrev cX4_dutiesOf : ByteArray := prog_6_method_2_code
def yX4_dutiesOf : MethodName := ⟨RX4, "dutiesOf", "(I)I"⟩
abbrev cX4_hoursOf : ByteArray := prog_6_method_3_code
def yX4_hoursOf : MethodName := ⟨RX4, "hoursOf", "(I)I"⟩
abbrev cX4_leastPrice : ByteArray := prog_6_method_4_code
def yX4_leastPrice : MethodName := ⟨RX4, "leastPrice", "(LRumourCustoms$Rumour;II)I"⟩
abbrev cX4_startIn : ByteArray := prog_6_method_5_code
def yX4_startIn : MethodName := ⟨RX4, "startIn", "(I)V"⟩
abbrev cX4_nextStage : ByteArray := prog_6_method_6_code
def yX4_nextStage : MethodName := ⟨RX4, "nextStage", "()I"⟩
abbrev cX4_goOnFrom : ByteArray := prog_6_method_7_code
def yX4_goOnFrom : MethodName := ⟨RX4, "goOnFrom", "(ILRumourCustoms$Rumour;)V"⟩
abbrev cX4_goBy : ByteArray := prog_6_method_8_code
def yX4_goBy : MethodName := ⟨RX4, "goBy", "(LRumourCustoms$Road;IILRumourCustoms$Rumour;)V"⟩
abbrev cX4_townOf : ByteArray := prog_6_method_9_code
def yX4_townOf : MethodName := ⟨RX4, "townOf", "(I)I"⟩
abbrev cX4_burntAt : ByteArray := prog_6_method_10_code
def yX4_burntAt : MethodName := ⟨RX4, "burntAt", "(I)I"⟩
def RX5 : String := "RumourCustoms"
def TX5 : u_T := fun k => match k with
  | 0 => ("RumourCustoms", "map", "LRumourCustoms$RoadMap;", true)
  | 1 => ("RumourCustoms", "ways", "LRumourCustoms$WaySearch;", true)
  | 2 => ("RumourCustoms", "rumours", "Ljava/util/ArrayList;", true)
  | 3 => ("RumourCustoms", "carriers", "Ljava/util/ArrayList;", true)
  | 4 => ("RumourCustoms", "townCount", "I", false)
  | 5 => ("RumourCustoms", "roadCount", "I", false)
  | 6 => ("RumourCustoms", "hour", "I", false)
  | 7 => ("RumourCustoms", "proofsBurnt", "I", false)
  | 8 => ("RumourCustoms", "dutiesPaid", "I", false)
  | 9 => ("RumourCustoms", "finesPaid", "I", false)
  | _ => ("RumourCustoms", "searches", "I", false)
def tyX5 : Nat → FieldType := fun k => match k with
  | 0 => .object "RumourCustoms$RoadMap"
  | 1 => .object "RumourCustoms$WaySearch"
  | 2 => .object "java/util/ArrayList"
  | 3 => .object "java/util/ArrayList"
  | 4 => .int
  | 5 => .int
  | 6 => .int
  | 7 => .int
  | 8 => .int
  | 9 => .int
  | _ => .int
abbrev wsX50 : List Cond := u_ws RX5 TX5 11
theorem nmX5 : ∀ a, a < 11 → ∀ b, b < 11 → a ≠ b → (TX5 a).2.1 ≠ (TX5 b).2.1 := by decide +kernel
theorem tyX5_ok : ∀ k, k < 11 → parseFieldDescriptor (TX5 k).2.2.1 = some (tyX5 k) := by decide +kernel
abbrev cX5_init : ByteArray := prog_1_method_1_code
def yX5_init : MethodName := ⟨RX5, "<init>", "()V"⟩
abbrev cX5_addTown : ByteArray := prog_1_method_2_code
def yX5_addTown : MethodName := ⟨RX5, "addTown", "()I"⟩
abbrev cX5_build : ByteArray := prog_1_method_3_code
def yX5_build : MethodName := ⟨RX5, "build", "(IIIIII)I"⟩
abbrev cX5_road : ByteArray := prog_1_method_4_code
def yX5_road : MethodName := ⟨RX5, "road", "(III)I"⟩
abbrev cX5_makeUp : ByteArray := prog_1_method_5_code
def yX5_makeUp : MethodName := ⟨RX5, "makeUp", "(III)I"⟩
abbrev cX5_rumour : ByteArray := prog_1_method_6_code
def yX5_rumour : MethodName := ⟨RX5, "rumour", "(II)I"⟩
abbrev cX5_town : ByteArray := prog_1_method_7_code
def yX5_town : MethodName := ⟨RX5, "town", "(II)I"⟩
abbrev cX5_heard : ByteArray := prog_1_method_8_code
def yX5_heard : MethodName := ⟨RX5, "heard", "(II)I"⟩
abbrev cX5_addCarrier : ByteArray := prog_1_method_9_code
def yX5_addCarrier : MethodName := ⟨RX5, "addCarrier", "(II)I"⟩
abbrev cX5_take : ByteArray := prog_1_method_10_code
def yX5_take : MethodName := ⟨RX5, "take", "(II)I"⟩
abbrev cX5_leave : ByteArray := prog_1_method_11_code
def yX5_leave : MethodName := ⟨RX5, "leave", "(II)I"⟩
abbrev cX5_hide : ByteArray := prog_1_method_12_code
def yX5_hide : MethodName := ⟨RX5, "hide", "(IIZ)I"⟩
abbrev cX5_tell : ByteArray := prog_1_method_13_code
def yX5_tell : MethodName := ⟨RX5, "tell", "(II)I"⟩
abbrev cX5_go : ByteArray := prog_1_method_14_code
def yX5_go : MethodName := ⟨RX5, "go", "(III)I"⟩
abbrev cX5_carrier : ByteArray := prog_1_method_15_code
def yX5_carrier : MethodName := ⟨RX5, "carrier", "(II)I"⟩
abbrev cX5_wouldPay : ByteArray := prog_1_method_16_code
def yX5_wouldPay : MethodName := ⟨RX5, "wouldPay", "(III)I"⟩
abbrev cX5_pass : ByteArray := prog_1_method_17_code
def yX5_pass : MethodName := ⟨RX5, "pass", "(I)I"⟩
abbrev cX5_count : ByteArray := prog_1_method_18_code
def yX5_count : MethodName := ⟨RX5, "count", "(I)I"⟩
abbrev cX5_cheapest : ByteArray := prog_1_method_19_code
def yX5_cheapest : MethodName := ⟨RX5, "cheapest", "(IIII)I"⟩
abbrev cX5_spread : ByteArray := prog_1_method_20_code
def yX5_spread : MethodName := ⟨RX5, "spread", "(II)I"⟩
abbrev cX5_hearsay : ByteArray := prog_1_method_21_code
def yX5_hearsay : MethodName := ⟨RX5, "hearsay", "()D"⟩
abbrev cX5_digest : ByteArray := prog_1_method_22_code
def yX5_digest : MethodName := ⟨RX5, "digest", "()J"⟩
abbrev cX5_requireWithin : ByteArray := prog_1_method_23_code
def yX5_requireWithin : MethodName := ⟨RX5, "requireWithin", "(III)V"⟩
abbrev cX5_requireWhat : ByteArray := prog_1_method_24_code
def yX5_requireWhat : MethodName := ⟨RX5, "requireWhat", "(II)V"⟩
abbrev cX5_requireTown : ByteArray := prog_1_method_25_code
def yX5_requireTown : MethodName := ⟨RX5, "requireTown", "(I)V"⟩
abbrev cX5_rumourAt : ByteArray := prog_1_method_26_code
def yX5_rumourAt : MethodName := ⟨RX5, "rumourAt", "(I)LRumourCustoms$Rumour;"⟩
abbrev cX5_carrierAt : ByteArray := prog_1_method_27_code
def yX5_carrierAt : MethodName := ⟨RX5, "carrierAt", "(I)LRumourCustoms$Carrier;"⟩
abbrev cX5_requireInTown : ByteArray := prog_1_method_28_code
def yX5_requireInTown : MethodName := ⟨RX5, "requireInTown", "(LRumourCustoms$Carrier;)V"⟩
abbrev cX5_requireHas : ByteArray := prog_1_method_29_code
def yX5_requireHas : MethodName := ⟨RX5, "requireHas", "(LRumourCustoms$Carrier;LRumourCustoms$Rumour;)V"⟩
abbrev cX5_rumoursIn : ByteArray := prog_1_method_30_code
def yX5_rumoursIn : MethodName := ⟨RX5, "rumoursIn", "(I)I"⟩
abbrev cX5_familiesIn : ByteArray := prog_1_method_31_code
def yX5_familiesIn : MethodName := ⟨RX5, "familiesIn", "(I)I"⟩
abbrev cX5_deepestIn : ByteArray := prog_1_method_32_code
def yX5_deepestIn : MethodName := ⟨RX5, "deepestIn", "(I)I"⟩
abbrev cX5_carriersIn : ByteArray := prog_1_method_33_code
def yX5_carriersIn : MethodName := ⟨RX5, "carriersIn", "(I)I"⟩
abbrev cX5_leastDeepIn : ByteArray := prog_1_method_34_code
def yX5_leastDeepIn : MethodName := ⟨RX5, "leastDeepIn", "(II)LRumourCustoms$Rumour;"⟩
abbrev cX5_inBag : ByteArray := prog_1_method_35_code
def yX5_inBag : MethodName := ⟨RX5, "inBag", "(LRumourCustoms$Carrier;)I"⟩
abbrev cX5_hiddenInBag : ByteArray := prog_1_method_36_code
def yX5_hiddenInBag : MethodName := ⟨RX5, "hiddenInBag", "(LRumourCustoms$Carrier;)I"⟩
abbrev cX5_owedBy : ByteArray := prog_1_method_37_code
def yX5_owedBy : MethodName := ⟨RX5, "owedBy", "(LRumourCustoms$Carrier;LRumourCustoms$Road;I)I"⟩
abbrev cX5_fineOf : ByteArray := prog_1_method_38_code
def yX5_fineOf : MethodName := ⟨RX5, "fineOf", "(LRumourCustoms$Carrier;LRumourCustoms$Road;I)I"⟩
abbrev cX5_burnProofs : ByteArray := prog_1_method_39_code
def yX5_burnProofs : MethodName := ⟨RX5, "burnProofs", "(LRumourCustoms$Carrier;I)V"⟩
abbrev cX5_inspect : ByteArray := prog_1_method_40_code
def yX5_inspect : MethodName := ⟨RX5, "inspect", "(LRumourCustoms$Carrier;LRumourCustoms$Road;)V"⟩
abbrev cX5_takeHidden : ByteArray := prog_1_method_41_code
def yX5_takeHidden : MethodName := ⟨RX5, "takeHidden", "(LRumourCustoms$Carrier;)V"⟩
abbrev cX5_pay : ByteArray := prog_1_method_42_code
def yX5_pay : MethodName := ⟨RX5, "pay", "(LRumourCustoms$Carrier;LRumourCustoms$Road;II)V"⟩
abbrev cX5_townsThatKnow : ByteArray := prog_1_method_43_code
def yX5_townsThatKnow : MethodName := ⟨RX5, "townsThatKnow", "(I)I"⟩
abbrev cX5_greatestDepthInTowns : ByteArray := prog_1_method_44_code
def yX5_greatestDepthInTowns : MethodName := ⟨RX5, "greatestDepthInTowns", "(I)I"⟩
abbrev cX5_notGoneOf : ByteArray := prog_1_method_45_code
def yX5_notGoneOf : MethodName := ⟨RX5, "notGoneOf", "(I)I"⟩
abbrev cX5_figureOf : ByteArray := prog_1_method_46_code
def yX5_figureOf : MethodName := ⟨RX5, "figureOf", "(LRumourCustoms$Carrier;I)I"⟩
abbrev cX5_figureOfLand : ByteArray := prog_1_method_47_code
def yX5_figureOfLand : MethodName := ⟨RX5, "figureOfLand", "(I)I"⟩
abbrev cX5_goneRumours : ByteArray := prog_1_method_48_code
def yX5_goneRumours : MethodName := ⟨RX5, "goneRumours", "()I"⟩
abbrev cX5_carriersOnTheWay : ByteArray := prog_1_method_49_code
def yX5_carriersOnTheWay : MethodName := ⟨RX5, "carriersOnTheWay", "()I"⟩
abbrev cX5_digestRoads : ByteArray := prog_1_method_50_code
def yX5_digestRoads : MethodName := ⟨RX5, "digestRoads", "(J)J"⟩
abbrev cX5_digestRoad : ByteArray := prog_1_method_51_code
def yX5_digestRoad : MethodName := ⟨RX5, "digestRoad", "(JLRumourCustoms$Road;)J"⟩
abbrev cX5_digestRumours : ByteArray := prog_1_method_52_code
def yX5_digestRumours : MethodName := ⟨RX5, "digestRumours", "(J)J"⟩
abbrev cX5_digestCarriers : ByteArray := prog_1_method_53_code
def yX5_digestCarriers : MethodName := ⟨RX5, "digestCarriers", "(J)J"⟩
def RX6 : String := "RumourCustomsModel"
def TX6 : u_T := fun k => match k with
  | 0 => ("RumourCustomsModel", "thrown", "I", false)
  | 1 => ("RumourCustomsModel", "hour", "I", false)
  | 2 => ("RumourCustomsModel", "towns", "I", false)
  | 3 => ("RumourCustomsModel", "roads", "I", false)
  | 4 => ("RumourCustomsModel", "rumours", "I", false)
  | 5 => ("RumourCustomsModel", "carriers", "I", false)
  | 6 => ("RumourCustomsModel", "burnt", "I", false)
  | 7 => ("RumourCustomsModel", "duties", "I", false)
  | 8 => ("RumourCustomsModel", "fines", "I", false)
  | 9 => ("RumourCustomsModel", "searches", "I", false)
  | 10 => ("RumourCustomsModel", "roadTable", "[I", true)
  | 11 => ("RumourCustomsModel", "table", "[I", true)
  | 12 => ("RumourCustomsModel", "people", "[I", true)
  | _ => ("RumourCustomsModel", "best", "[J", true)
def tyX6 : Nat → FieldType := fun k => match k with
  | 0 => .int
  | 1 => .int
  | 2 => .int
  | 3 => .int
  | 4 => .int
  | 5 => .int
  | 6 => .int
  | 7 => .int
  | 8 => .int
  | 9 => .int
  | 10 => .array .int
  | 11 => .array .int
  | 12 => .array .int
  | _ => .array .long
abbrev wsX60 : List Cond := u_ws RX6 TX6 14
theorem nmX6 : ∀ a, a < 14 → ∀ b, b < 14 → a ≠ b → (TX6 a).2.1 ≠ (TX6 b).2.1 := by decide +kernel
theorem tyX6_ok : ∀ k, k < 14 → parseFieldDescriptor (TX6 k).2.2.1 = some (tyX6 k) := by decide +kernel
abbrev cX6_init : ByteArray := prog_8_method_1_code
def yX6_init : MethodName := ⟨RX6, "<init>", "()V"⟩
abbrev cX6_thrown : ByteArray := prog_8_method_2_code
def yX6_thrown : MethodName := ⟨RX6, "thrown", "()I"⟩
abbrev cX6_fail : ByteArray := prog_8_method_3_code
def yX6_fail : MethodName := ⟨RX6, "fail", "(I)I"⟩
abbrev cX6_isIn : ByteArray := prog_8_method_4_code
def yX6_isIn : MethodName := ⟨RX6, "isIn", "(III)Z"⟩
abbrev cX6_isTown : ByteArray := prog_8_method_5_code
def yX6_isTown : MethodName := ⟨RX6, "isTown", "(I)Z"⟩
abbrev cX6_isRumour : ByteArray := prog_8_method_6_code
def yX6_isRumour : MethodName := ⟨RX6, "isRumour", "(I)Z"⟩
abbrev cX6_isCarrier : ByteArray := prog_8_method_7_code
def yX6_isCarrier : MethodName := ⟨RX6, "isCarrier", "(I)Z"⟩
abbrev cX6_get : ByteArray := prog_8_method_8_code
def yX6_get : MethodName := ⟨RX6, "get", "(II)I"⟩
abbrev cX6_set : ByteArray := prog_8_method_9_code
def yX6_set : MethodName := ⟨RX6, "set", "(III)V"⟩
abbrev cX6_man : ByteArray := prog_8_method_10_code
def yX6_man : MethodName := ⟨RX6, "man", "(II)I"⟩
abbrev cX6_setMan : ByteArray := prog_8_method_11_code
def yX6_setMan : MethodName := ⟨RX6, "setMan", "(III)V"⟩
abbrev cX6_base : ByteArray := prog_8_method_12_code
def yX6_base : MethodName := ⟨RX6, "base", "(II)I"⟩
abbrev cX6_addTown : ByteArray := prog_8_method_13_code
def yX6_addTown : MethodName := ⟨RX6, "addTown", "()I"⟩
abbrev cX6_build : ByteArray := prog_8_method_14_code
def yX6_build : MethodName := ⟨RX6, "build", "(IIIIII)I"⟩
abbrev cX6_road : ByteArray := prog_8_method_15_code
def yX6_road : MethodName := ⟨RX6, "road", "(III)I"⟩
abbrev cX6_add : ByteArray := prog_8_method_16_code
def yX6_add : MethodName := ⟨RX6, "add", "(IIIII)I"⟩
abbrev cX6_makeUp : ByteArray := prog_8_method_17_code
def yX6_makeUp : MethodName := ⟨RX6, "makeUp", "(III)I"⟩
abbrev cX6_rumour : ByteArray := prog_8_method_18_code
def yX6_rumour : MethodName := ⟨RX6, "rumour", "(II)I"⟩
abbrev cX6_knows : ByteArray := prog_8_method_19_code
def yX6_knows : MethodName := ⟨RX6, "knows", "(II)Z"⟩
abbrev cX6_heardOf : ByteArray := prog_8_method_20_code
def yX6_heardOf : MethodName := ⟨RX6, "heardOf", "(II)I"⟩
abbrev cX6_townTold : ByteArray := prog_8_method_21_code
def yX6_townTold : MethodName := ⟨RX6, "townTold", "(II)I"⟩
abbrev cX6_town : ByteArray := prog_8_method_22_code
def yX6_town : MethodName := ⟨RX6, "town", "(II)I"⟩
abbrev cX6_heard : ByteArray := prog_8_method_23_code
def yX6_heard : MethodName := ⟨RX6, "heard", "(II)I"⟩
abbrev cX6_addCarrier : ByteArray := prog_8_method_24_code
def yX6_addCarrier : MethodName := ⟨RX6, "addCarrier", "(II)I"⟩
abbrev cX6_inBag : ByteArray := prog_8_method_25_code
def yX6_inBag : MethodName := ⟨RX6, "inBag", "(IZ)I"⟩
abbrev cX6_lay : ByteArray := prog_8_method_26_code
def yX6_lay : MethodName := ⟨RX6, "lay", "(III)V"⟩
abbrev cX6_take : ByteArray := prog_8_method_27_code
def yX6_take : MethodName := ⟨RX6, "take", "(II)I"⟩
abbrev cX6_has : ByteArray := prog_8_method_28_code
def yX6_has : MethodName := ⟨RX6, "has", "(II)Z"⟩
abbrev cX6_leave : ByteArray := prog_8_method_29_code
def yX6_leave : MethodName := ⟨RX6, "leave", "(II)I"⟩
abbrev cX6_hide : ByteArray := prog_8_method_30_code
def yX6_hide : MethodName := ⟨RX6, "hide", "(IIZ)I"⟩
abbrev cX6_tell : ByteArray := prog_8_method_31_code
def yX6_tell : MethodName := ⟨RX6, "tell", "(II)I"⟩
abbrev cX6_dutyAt : ByteArray := prog_8_method_32_code
def yX6_dutyAt : MethodName := ⟨RX6, "dutyAt", "(III)I"⟩
abbrev cX6_owed : ByteArray := prog_8_method_33_code
def yX6_owed : MethodName := ⟨RX6, "owed", "(III)I"⟩
abbrev cX6_isSearched : ByteArray := prog_8_method_34_code
def yX6_isSearched : MethodName := ⟨RX6, "isSearched", "(II)Z"⟩
abbrev cX6_fine : ByteArray := prog_8_method_35_code
def yX6_fine : MethodName := ⟨RX6, "fine", "(III)I"⟩
abbrev cX6_go : ByteArray := prog_8_method_36_code
def yX6_go : MethodName := ⟨RX6, "go", "(III)I"⟩
abbrev cX6_carrierTold : ByteArray := prog_8_method_37_code
def yX6_carrierTold : MethodName := ⟨RX6, "carrierTold", "(II)I"⟩
abbrev cX6_carrier : ByteArray := prog_8_method_38_code
def yX6_carrier : MethodName := ⟨RX6, "carrier", "(II)I"⟩
abbrev cX6_wouldPay : ByteArray := prog_8_method_39_code
def yX6_wouldPay : MethodName := ⟨RX6, "wouldPay", "(III)I"⟩
abbrev cX6_pass : ByteArray := prog_8_method_40_code
def yX6_pass : MethodName := ⟨RX6, "pass", "(I)I"⟩
abbrev cX6_gone : ByteArray := prog_8_method_41_code
def yX6_gone : MethodName := ⟨RX6, "gone", "()I"⟩
abbrev cX6_counted : ByteArray := prog_8_method_42_code
def yX6_counted : MethodName := ⟨RX6, "counted", "(I)I"⟩
abbrev cX6_count : ByteArray := prog_8_method_43_code
def yX6_count : MethodName := ⟨RX6, "count", "(I)I"⟩
abbrev cX6_cheapest : ByteArray := prog_8_method_44_code
def yX6_cheapest : MethodName := ⟨RX6, "cheapest", "(IIII)I"⟩
abbrev cX6_goOn : ByteArray := prog_8_method_45_code
def yX6_goOn : MethodName := ⟨RX6, "goOn", "(III)Z"⟩
abbrev cX6_spread : ByteArray := prog_8_method_46_code
def yX6_spread : MethodName := ⟨RX6, "spread", "(II)I"⟩
abbrev cX6_hearsay : ByteArray := prog_8_method_47_code
def yX6_hearsay : MethodName := ⟨RX6, "hearsay", "()D"⟩
abbrev cX6_digest : ByteArray := prog_8_method_48_code
def yX6_digest : MethodName := ⟨RX6, "digest", "()J"⟩
def RJx145de : String := "java/io/Serializable"
def TJx145de : u_T := fun k => match k with
  | _ => ("", "", "", false)
def tyJx145de : Nat → FieldType := fun k => match k with
  | _ => .int
abbrev wsJx145de0 : List Cond := u_ws RJx145de TJx145de 0
theorem nmJx145de : ∀ a, a < 0 → ∀ b, b < 0 → a ≠ b → (TJx145de a).2.1 ≠ (TJx145de b).2.1 := by decide +kernel
theorem tyJx145de_ok : ∀ k, k < 0 → parseFieldDescriptor (TJx145de k).2.2.1 = some (tyJx145de k) := by decide +kernel
def RJx8e188 : String := "java/lang/Cloneable"
def TJx8e188 : u_T := fun k => match k with
  | _ => ("", "", "", false)
def tyJx8e188 : Nat → FieldType := fun k => match k with
  | _ => .int
abbrev wsJx8e1880 : List Cond := u_ws RJx8e188 TJx8e188 0
theorem nmJx8e188 : ∀ a, a < 0 → ∀ b, b < 0 → a ≠ b → (TJx8e188 a).2.1 ≠ (TJx8e188 b).2.1 := by decide +kernel
theorem tyJx8e188_ok : ∀ k, k < 0 → parseFieldDescriptor (TJx8e188 k).2.2.1 = some (tyJx8e188 k) := by decide +kernel
def RJ6 : String := "java/lang/Integer"
def TJ6 : u_T := fun k => match k with
  | _ => ("", "", "", false)
def tyJ6 : Nat → FieldType := fun k => match k with
  | _ => .int
abbrev wsJ60 : List Cond := u_ws RJ6 TJ6 0
theorem nmJ6 : ∀ a, a < 0 → ∀ b, b < 0 → a ≠ b → (TJ6 a).2.1 ≠ (TJ6 b).2.1 := by decide +kernel
theorem tyJ6_ok : ∀ k, k < 0 → parseFieldDescriptor (TJ6 k).2.2.1 = some (tyJ6 k) := by decide +kernel
abbrev cJ6_bitCount_0f7a4 : ByteArray := prog_15_method_49_code
def yJ6_bitCount_0f7a4 : MethodName := ⟨RJ6, "bitCount", "(I)I"⟩
def RJxab1ab : String := "java/lang/Iterable"
def TJxab1ab : u_T := fun k => match k with
  | _ => ("", "", "", false)
def tyJxab1ab : Nat → FieldType := fun k => match k with
  | _ => .int
abbrev wsJxab1ab0 : List Cond := u_ws RJxab1ab TJxab1ab 0
theorem nmJxab1ab : ∀ a, a < 0 → ∀ b, b < 0 → a ≠ b → (TJxab1ab a).2.1 ≠ (TJxab1ab b).2.1 := by decide +kernel
theorem tyJxab1ab_ok : ∀ k, k < 0 → parseFieldDescriptor (TJxab1ab k).2.2.1 = some (tyJxab1ab k) := by decide +kernel
def RJ13 : String := "java/lang/Long"
def TJ13 : u_T := fun k => match k with
  | _ => ("", "", "", false)
def tyJ13 : Nat → FieldType := fun k => match k with
  | _ => .int
abbrev wsJ130 : List Cond := u_ws RJ13 TJ13 0
theorem nmJ13 : ∀ a, a < 0 → ∀ b, b < 0 → a ≠ b → (TJ13 a).2.1 ≠ (TJ13 b).2.1 := by decide +kernel
theorem tyJ13_ok : ∀ k, k < 0 → parseFieldDescriptor (TJ13 k).2.2.1 = some (tyJ13 k) := by decide +kernel
abbrev cJ13_bitCount_95d88 : ByteArray := prog_17_method_50_code
def yJ13_bitCount_95d88 : MethodName := ⟨RJ13, "bitCount", "(J)I"⟩
def RJ9 : String := "java/lang/Math"
def TJ9 : u_T := fun k => match k with
  | _ => ("", "", "", false)
def tyJ9 : Nat → FieldType := fun k => match k with
  | _ => .int
abbrev wsJ90 : List Cond := u_ws RJ9 TJ9 0
theorem nmJ9 : ∀ a, a < 0 → ∀ b, b < 0 → a ≠ b → (TJ9 a).2.1 ≠ (TJ9 b).2.1 := by decide +kernel
theorem tyJ9_ok : ∀ k, k < 0 → parseFieldDescriptor (TJ9 k).2.2.1 = some (tyJ9 k) := by decide +kernel
abbrev cJ9_max_7cf53 : ByteArray := prog_18_method_65_code
def yJ9_max_7cf53 : MethodName := ⟨RJ9, "max", "(II)I"⟩
abbrev cJ9_min_7cf53 : ByteArray := prog_18_method_69_code
def yJ9_min_7cf53 : MethodName := ⟨RJ9, "min", "(II)I"⟩
def RJ0 : String := "java/lang/String"
def TJ0 : u_T := fun k => match k with
  | _ => ("", "", "", false)
def tyJ0 : Nat → FieldType := fun k => match k with
  | _ => .int
abbrev wsJ00 : List Cond := u_ws RJ0 TJ0 0
theorem nmJ0 : ∀ a, a < 0 → ∀ b, b < 0 → a ≠ b → (TJ0 a).2.1 ≠ (TJ0 b).2.1 := by decide +kernel
theorem tyJ0_ok : ∀ k, k < 0 → parseFieldDescriptor (TJ0 k).2.2.1 = some (tyJ0 k) := by decide +kernel
def RJ10 : String := "java/lang/System"
def TJ10 : u_T := fun k => match k with
  | _ => ("", "", "", false)
def tyJ10 : Nat → FieldType := fun k => match k with
  | _ => .int
abbrev wsJ100 : List Cond := u_ws RJ10 TJ10 0
theorem nmJ10 : ∀ a, a < 0 → ∀ b, b < 0 → a ≠ b → (TJ10 a).2.1 ≠ (TJ10 b).2.1 := by decide +kernel
theorem tyJ10_ok : ∀ k, k < 0 → parseFieldDescriptor (TJ10 k).2.2.1 = some (tyJ10 k) := by decide +kernel
def RJxa1e45 : String := "java/util/AbstractCollection"
def TJxa1e45 : u_T := fun k => match k with
  | _ => ("", "", "", false)
def tyJxa1e45 : Nat → FieldType := fun k => match k with
  | _ => .int
abbrev wsJxa1e450 : List Cond := u_ws RJxa1e45 TJxa1e45 0
theorem nmJxa1e45 : ∀ a, a < 0 → ∀ b, b < 0 → a ≠ b → (TJxa1e45 a).2.1 ≠ (TJxa1e45 b).2.1 := by decide +kernel
theorem tyJxa1e45_ok : ∀ k, k < 0 → parseFieldDescriptor (TJxa1e45 k).2.2.1 = some (tyJxa1e45 k) := by decide +kernel
abbrev cJxa1e45_init_da8c8 : ByteArray := prog_23_method_1_code
def yJxa1e45_init_da8c8 : MethodName := ⟨RJxa1e45, "<init>", "()V"⟩
def RJxc12de : String := "java/util/AbstractList"
def TJxc12de : u_T := fun k => match k with
  | _ => ("", "", "", false)
def tyJxc12de : Nat → FieldType := fun k => match k with
  | _ => .int
abbrev wsJxc12de0 : List Cond := u_ws RJxc12de TJxc12de 0
theorem nmJxc12de : ∀ a, a < 0 → ∀ b, b < 0 → a ≠ b → (TJxc12de a).2.1 ≠ (TJxc12de b).2.1 := by decide +kernel
theorem tyJxc12de_ok : ∀ k, k < 0 → parseFieldDescriptor (TJxc12de k).2.2.1 = some (tyJxc12de k) := by decide +kernel
abbrev cJxc12de_init_da8c8 : ByteArray := prog_24_method_1_code
def yJxc12de_init_da8c8 : MethodName := ⟨RJxc12de, "<init>", "()V"⟩
def RJx4a65c : String := "java/util/ArrayList"
def TJx4a65c : u_T := fun k => match k with
  | 0 => ("java/util/AbstractList", "modCount", "I", false)
  | 1 => ("java/util/ArrayList", "elementData", "[Ljava/lang/Object;", false)
  | _ => ("java/util/ArrayList", "size", "I", false)
def tyJx4a65c : Nat → FieldType := fun k => match k with
  | 0 => .int
  | 1 => .array (.object "java/lang/Object")
  | _ => .int
abbrev wsJx4a65c0 : List Cond := u_ws RJx4a65c TJx4a65c 3
theorem nmJx4a65c : ∀ a, a < 3 → ∀ b, b < 3 → a ≠ b → (TJx4a65c a).2.1 ≠ (TJx4a65c b).2.1 := by decide +kernel
theorem tyJx4a65c_ok : ∀ k, k < 3 → parseFieldDescriptor (TJx4a65c k).2.2.1 = some (tyJx4a65c k) := by decide +kernel
abbrev cJx4a65c_init_da8c8 : ByteArray := prog_25_method_2_code
def yJx4a65c_init_da8c8 : MethodName := ⟨RJx4a65c, "<init>", "()V"⟩
abbrev cJx4a65c_grow_92f84 : ByteArray := prog_25_method_6_code
def yJx4a65c_grow_92f84 : MethodName := ⟨RJx4a65c, "grow", "(I)[Ljava/lang/Object;"⟩
abbrev cJx4a65c_grow_d5877 : ByteArray := prog_25_method_7_code
def yJx4a65c_grow_d5877 : MethodName := ⟨RJx4a65c, "grow", "()[Ljava/lang/Object;"⟩
abbrev cJx4a65c_size_8abf5 : ByteArray := prog_25_method_8_code
def yJx4a65c_size_8abf5 : MethodName := ⟨RJx4a65c, "size", "()I"⟩
abbrev cJx4a65c_elementData_915e3 : ByteArray := prog_25_method_18_code
def yJx4a65c_elementData_915e3 : MethodName := ⟨RJx4a65c, "elementData", "(I)Ljava/lang/Object;"⟩
abbrev cJx4a65c_get_915e3 : ByteArray := prog_25_method_20_code
def yJx4a65c_get_915e3 : MethodName := ⟨RJx4a65c, "get", "(I)Ljava/lang/Object;"⟩
abbrev cJx4a65c_add_72be8 : ByteArray := prog_25_method_24_code
def yJx4a65c_add_72be8 : MethodName := ⟨RJx4a65c, "add", "(Ljava/lang/Object;[Ljava/lang/Object;I)V"⟩
abbrev cJx4a65c_add_9ea2d : ByteArray := prog_25_method_25_code
def yJx4a65c_add_9ea2d : MethodName := ⟨RJx4a65c, "add", "(Ljava/lang/Object;)Z"⟩
def RJ7 : String := "java/util/Arrays"
def TJ7 : u_T := fun k => match k with
  | _ => ("", "", "", false)
def tyJ7 : Nat → FieldType := fun k => match k with
  | _ => .int
abbrev wsJ70 : List Cond := u_ws RJ7 TJ7 0
theorem nmJ7 : ∀ a, a < 0 → ∀ b, b < 0 → a ≠ b → (TJ7 a).2.1 ≠ (TJ7 b).2.1 := by decide +kernel
theorem tyJ7_ok : ∀ k, k < 0 → parseFieldDescriptor (TJ7 k).2.2.1 = some (tyJ7 k) := by decide +kernel
abbrev cJ7_copyOf_1904c : ByteArray := prog_26_method_119_code
def yJ7_copyOf_1904c : MethodName := ⟨RJ7, "copyOf", "([Ljava/lang/Object;I)[Ljava/lang/Object;"⟩
abbrev cJ7_copyOf_6403c : ByteArray := prog_26_method_120_code
def yJ7_copyOf_6403c : MethodName := ⟨RJ7, "copyOf", "([Ljava/lang/Object;ILjava/lang/Class;)[Ljava/lang/Object;"⟩
def RJx5ef63 : String := "java/util/Collection"
def TJx5ef63 : u_T := fun k => match k with
  | _ => ("", "", "", false)
def tyJx5ef63 : Nat → FieldType := fun k => match k with
  | _ => .int
abbrev wsJx5ef630 : List Cond := u_ws RJx5ef63 TJx5ef63 0
theorem nmJx5ef63 : ∀ a, a < 0 → ∀ b, b < 0 → a ≠ b → (TJx5ef63 a).2.1 ≠ (TJx5ef63 b).2.1 := by decide +kernel
theorem tyJx5ef63_ok : ∀ k, k < 0 → parseFieldDescriptor (TJx5ef63 k).2.2.1 = some (tyJx5ef63 k) := by decide +kernel
def RJxbd725 : String := "java/util/List"
def TJxbd725 : u_T := fun k => match k with
  | _ => ("", "", "", false)
def tyJxbd725 : Nat → FieldType := fun k => match k with
  | _ => .int
abbrev wsJxbd7250 : List Cond := u_ws RJxbd725 TJxbd725 0
theorem nmJxbd725 : ∀ a, a < 0 → ∀ b, b < 0 → a ≠ b → (TJxbd725 a).2.1 ≠ (TJxbd725 b).2.1 := by decide +kernel
theorem tyJxbd725_ok : ∀ k, k < 0 → parseFieldDescriptor (TJxbd725 k).2.2.1 = some (tyJxbd725 k) := by decide +kernel
def RJ15 : String := "java/util/Objects"
def TJ15 : u_T := fun k => match k with
  | _ => ("", "", "", false)
def tyJ15 : Nat → FieldType := fun k => match k with
  | _ => .int
abbrev wsJ150 : List Cond := u_ws RJ15 TJ15 0
theorem nmJ15 : ∀ a, a < 0 → ∀ b, b < 0 → a ≠ b → (TJ15 a).2.1 ≠ (TJ15 b).2.1 := by decide +kernel
theorem tyJ15_ok : ∀ k, k < 0 → parseFieldDescriptor (TJ15 k).2.2.1 = some (tyJ15 k) := by decide +kernel
abbrev cJ15_checkIndex_7cf53 : ByteArray := prog_29_method_17_code
def yJ15_checkIndex_7cf53 : MethodName := ⟨RJ15, "checkIndex", "(II)I"⟩
def RJxf0a74 : String := "java/util/RandomAccess"
def TJxf0a74 : u_T := fun k => match k with
  | _ => ("", "", "", false)
def tyJxf0a74 : Nat → FieldType := fun k => match k with
  | _ => .int
abbrev wsJxf0a740 : List Cond := u_ws RJxf0a74 TJxf0a74 0
theorem nmJxf0a74 : ∀ a, a < 0 → ∀ b, b < 0 → a ≠ b → (TJxf0a74 a).2.1 ≠ (TJxf0a74 b).2.1 := by decide +kernel
theorem tyJxf0a74_ok : ∀ k, k < 0 → parseFieldDescriptor (TJxf0a74 k).2.2.1 = some (tyJxf0a74 k) := by decide +kernel
def RJxa66e6 : String := "java/util/SequencedCollection"
def TJxa66e6 : u_T := fun k => match k with
  | _ => ("", "", "", false)
def tyJxa66e6 : Nat → FieldType := fun k => match k with
  | _ => .int
abbrev wsJxa66e60 : List Cond := u_ws RJxa66e6 TJxa66e6 0
theorem nmJxa66e6 : ∀ a, a < 0 → ∀ b, b < 0 → a ≠ b → (TJxa66e6 a).2.1 ≠ (TJxa66e6 b).2.1 := by decide +kernel
theorem tyJxa66e6_ok : ∀ k, k < 0 → parseFieldDescriptor (TJxa66e6 k).2.2.1 = some (tyJxa66e6 k) := by decide +kernel
def RJ8 : String := "jdk/internal/util/ArraysSupport"
def TJ8 : u_T := fun k => match k with
  | _ => ("", "", "", false)
def tyJ8 : Nat → FieldType := fun k => match k with
  | _ => .int
abbrev wsJ80 : List Cond := u_ws RJ8 TJ8 0
theorem nmJ8 : ∀ a, a < 0 → ∀ b, b < 0 → a ≠ b → (TJ8 a).2.1 ≠ (TJ8 b).2.1 := by decide +kernel
theorem tyJ8_ok : ∀ k, k < 0 → parseFieldDescriptor (TJ8 k).2.2.1 = some (tyJ8 k) := by decide +kernel
abbrev cJ8_newLength_cabcc : ByteArray := prog_32_method_27_code
def yJ8_newLength_cabcc : MethodName := ⟨RJ8, "newLength", "(III)I"⟩
abbrev cJ8_hugeLength_7cf53 : ByteArray := prog_32_method_28_code
def yJ8_hugeLength_7cf53 : MethodName := ⟨RJ8, "hugeLength", "(II)I"⟩
def RJ3 : String := "jdk/internal/util/Preconditions"
def TJ3 : u_T := fun k => match k with
  | _ => ("", "", "", false)
def tyJ3 : Nat → FieldType := fun k => match k with
  | _ => .int
abbrev wsJ30 : List Cond := u_ws RJ3 TJ3 0
theorem nmJ3 : ∀ a, a < 0 → ∀ b, b < 0 → a ≠ b → (TJ3 a).2.1 ≠ (TJ3 b).2.1 := by decide +kernel
theorem tyJ3_ok : ∀ k, k < 0 → parseFieldDescriptor (TJ3 k).2.2.1 = some (tyJ3 k) := by decide +kernel
abbrev cJ3_checkIndex_8e157 : ByteArray := prog_33_method_11_code
def yJ3_checkIndex_8e157 : MethodName := ⟨RJ3, "checkIndex", "(IILjava/util/function/BiFunction;)I"⟩
def RL : String := "RumourCustomsLaw"
abbrev cL_addTown : ByteArray := method_3_code
def yL_addTown : MethodName := ⟨RL, "addTown", "(LRumourCustoms;[J)I"⟩
abbrev cL_build : ByteArray := method_4_code
def yL_build : MethodName := ⟨RL, "build", "(LRumourCustoms;IIIIII[J)I"⟩
abbrev cL_road : ByteArray := method_5_code
def yL_road : MethodName := ⟨RL, "road", "(LRumourCustoms;III[J)I"⟩
abbrev cL_makeUp : ByteArray := method_6_code
def yL_makeUp : MethodName := ⟨RL, "makeUp", "(LRumourCustoms;III[J)I"⟩
abbrev cL_rumour : ByteArray := method_7_code
def yL_rumour : MethodName := ⟨RL, "rumour", "(LRumourCustoms;II[J)I"⟩
abbrev cL_town : ByteArray := method_8_code
def yL_town : MethodName := ⟨RL, "town", "(LRumourCustoms;II[J)I"⟩
abbrev cL_heard : ByteArray := method_9_code
def yL_heard : MethodName := ⟨RL, "heard", "(LRumourCustoms;II[J)I"⟩
abbrev cL_addCarrier : ByteArray := method_10_code
def yL_addCarrier : MethodName := ⟨RL, "addCarrier", "(LRumourCustoms;II[J)I"⟩
abbrev cL_take : ByteArray := method_11_code
def yL_take : MethodName := ⟨RL, "take", "(LRumourCustoms;II[J)I"⟩
abbrev cL_leave : ByteArray := method_12_code
def yL_leave : MethodName := ⟨RL, "leave", "(LRumourCustoms;II[J)I"⟩
abbrev cL_hide : ByteArray := method_13_code
def yL_hide : MethodName := ⟨RL, "hide", "(LRumourCustoms;IIZ[J)I"⟩
abbrev cL_tell : ByteArray := method_14_code
def yL_tell : MethodName := ⟨RL, "tell", "(LRumourCustoms;II[J)I"⟩
abbrev cL_go : ByteArray := method_15_code
def yL_go : MethodName := ⟨RL, "go", "(LRumourCustoms;III[J)I"⟩
abbrev cL_carrier : ByteArray := method_16_code
def yL_carrier : MethodName := ⟨RL, "carrier", "(LRumourCustoms;II[J)I"⟩
abbrev cL_wouldPay : ByteArray := method_17_code
def yL_wouldPay : MethodName := ⟨RL, "wouldPay", "(LRumourCustoms;III[J)I"⟩
abbrev cL_pass : ByteArray := method_18_code
def yL_pass : MethodName := ⟨RL, "pass", "(LRumourCustoms;I[J)I"⟩
abbrev cL_count : ByteArray := method_19_code
def yL_count : MethodName := ⟨RL, "count", "(LRumourCustoms;I[J)I"⟩
abbrev cL_cheapest : ByteArray := method_20_code
def yL_cheapest : MethodName := ⟨RL, "cheapest", "(LRumourCustoms;IIII[J)I"⟩
abbrev cL_spread : ByteArray := method_21_code
def yL_spread : MethodName := ⟨RL, "spread", "(LRumourCustoms;II[J)I"⟩
abbrev cL_law : ByteArray := code
def yL_law : MethodName := ⟨RL, "law", "([I)Z"⟩
abbrev vwCl : List vw_C := [(RJx4a65c, TJx4a65c, 3), (RX0, TX0, 5), (RX1, TX1, 6), (RX2, TX2, 1), (RX3, TX3, 8), (RX4, TX4, 3), (RX5, TX5, 11), (RX6, TX6, 14)]
