def RX0 : String := "Leadlight$Cartoon"
def TX0 : u_T := fun k => match k with
  | 0 => ("Leadlight$Cartoon", "owners", "[I", true)
  | _ => ("Leadlight$Cartoon", "supports", "[J", true)
def tyX0 : Nat → FieldType := fun k => match k with
  | 0 => .array .int
  | _ => .array .long
abbrev wsX00 : List Cond := u_ws RX0 TX0 2
theorem nmX0 : ∀ a, a < 2 → ∀ b, b < 2 → a ≠ b → (TX0 a).2.1 ≠ (TX0 b).2.1 := by decide +kernel
theorem tyX0_ok : ∀ k, k < 2 → parseFieldDescriptor (TX0 k).2.2.1 = some (tyX0 k) := by decide +kernel
abbrev cX0_init : ByteArray := prog_2_method_1_code
def yX0_init : MethodName := ⟨RX0, "<init>", "()V"⟩
abbrev cX0_ownerAt : ByteArray := prog_2_method_2_code
def yX0_ownerAt : MethodName := ⟨RX0, "ownerAt", "(II)I"⟩
abbrev cX0_holds : ByteArray := prog_2_method_3_code
def yX0_holds : MethodName := ⟨RX0, "holds", "(I)Z"⟩
abbrev cX0_present : ByteArray := prog_2_method_4_code
def yX0_present : MethodName := ⟨RX0, "present", "()J"⟩
abbrev cX0_hand : ByteArray := prog_2_method_5_code
def yX0_hand : MethodName := ⟨RX0, "hand", "(II)V"⟩
abbrev cX0_hand_ : ByteArray := prog_2_method_6_code
def yX0_hand_ : MethodName := ⟨RX0, "hand", "(LLeadlight$Shape;I)V"⟩
abbrev cX0_touches : ByteArray := prog_2_method_7_code
def yX0_touches : MethodName := ⟨RX0, "touches", "(II)Z"⟩
abbrev cX0_adjoin : ByteArray := prog_2_method_8_code
def yX0_adjoin : MethodName := ⟨RX0, "adjoin", "(II)Z"⟩
abbrev cX0_leadLength : ByteArray := prog_2_method_9_code
def yX0_leadLength : MethodName := ⟨RX0, "leadLength", "()I"⟩
abbrev cX0_jointCount : ByteArray := prog_2_method_10_code
def yX0_jointCount : MethodName := ⟨RX0, "jointCount", "()I"⟩
abbrev cX0_leadsAtCorner : ByteArray := prog_2_method_11_code
def yX0_leadsAtCorner : MethodName := ⟨RX0, "leadsAtCorner", "(II)I"⟩
abbrev cX0_leadsBetween : ByteArray := prog_2_method_12_code
def yX0_leadsBetween : MethodName := ⟨RX0, "leadsBetween", "(II)I"⟩
abbrev cX0_putInAt : ByteArray := prog_2_method_13_code
def yX0_putInAt : MethodName := ⟨RX0, "putInAt", "(I)I"⟩
abbrev cX0_lowestReady : ByteArray := prog_2_method_14_code
def yX0_lowestReady : MethodName := ⟨RX0, "lowestReady", "(JJ)I"⟩
abbrev cX0_findSupports : ByteArray := prog_2_method_15_code
def yX0_findSupports : MethodName := ⟨RX0, "findSupports", "()V"⟩
abbrev cX0_addSupport : ByteArray := prog_2_method_16_code
def yX0_addSupport : MethodName := ⟨RX0, "addSupport", "(II)V"⟩
abbrev cX0_crossedBehind : ByteArray := prog_2_method_17_code
def yX0_crossedBehind : MethodName := ⟨RX0, "crossedBehind", "(I)I"⟩
def RX1 : String := "Leadlight$Laying"
def TX1 : u_T := fun k => match k with
  | 0 => ("Leadlight$Laying", "queue", "[I", true)
  | 1 => ("Leadlight$Laying", "heights", "[I", true)
  | 2 => ("Leadlight$Laying", "widths", "[I", true)
  | 3 => ("Leadlight$Laying", "spots", "[I", true)
  | 4 => ("Leadlight$Laying", "queued", "I", false)
  | 5 => ("Leadlight$Laying", "sheetsUsed", "I", false)
  | 6 => ("Leadlight$Laying", "shelfBottom", "I", false)
  | 7 => ("Leadlight$Laying", "shelfHeight", "I", false)
  | _ => ("Leadlight$Laying", "shelfEnd", "I", false)
def tyX1 : Nat → FieldType := fun k => match k with
  | 0 => .array .int
  | 1 => .array .int
  | 2 => .array .int
  | 3 => .array .int
  | 4 => .int
  | 5 => .int
  | 6 => .int
  | 7 => .int
  | _ => .int
abbrev wsX10 : List Cond := u_ws RX1 TX1 9
theorem nmX1 : ∀ a, a < 9 → ∀ b, b < 9 → a ≠ b → (TX1 a).2.1 ≠ (TX1 b).2.1 := by decide +kernel
theorem tyX1_ok : ∀ k, k < 9 → parseFieldDescriptor (TX1 k).2.2.1 = some (tyX1 k) := by decide +kernel
abbrev cX1_init : ByteArray := prog_3_method_1_code
def yX1_init : MethodName := ⟨RX1, "<init>", "()V"⟩
abbrev cX1_begin : ByteArray := prog_3_method_2_code
def yX1_begin : MethodName := ⟨RX1, "begin", "()V"⟩
abbrev cX1_enqueue : ByteArray := prog_3_method_3_code
def yX1_enqueue : MethodName := ⟨RX1, "enqueue", "(III)V"⟩
abbrev cX1_isLarger : ByteArray := prog_3_method_4_code
def yX1_isLarger : MethodName := ⟨RX1, "isLarger", "(II)Z"⟩
abbrev cX1_layAll : ByteArray := prog_3_method_5_code
def yX1_layAll : MethodName := ⟨RX1, "layAll", "(I)V"⟩
abbrev cX1_layOne : ByteArray := prog_3_method_6_code
def yX1_layOne : MethodName := ⟨RX1, "layOne", "(II)V"⟩
abbrev cX1_openShelf : ByteArray := prog_3_method_7_code
def yX1_openShelf : MethodName := ⟨RX1, "openShelf", "(I)V"⟩
abbrev cX1_spotOf : ByteArray := prog_3_method_8_code
def yX1_spotOf : MethodName := ⟨RX1, "spotOf", "(I)I"⟩
def RX2 : String := "Leadlight$Piece"
def TX2 : u_T := fun k => match k with
  | 0 => ("Leadlight$Piece", "heats", "[I", true)
  | 1 => ("Leadlight$Piece", "firings", "[I", true)
  | 2 => ("Leadlight$Piece", "things", "[I", true)
  | 3 => ("Leadlight$Piece", "colour", "I", false)
  | 4 => ("Leadlight$Piece", "state", "I", false)
  | 5 => ("Leadlight$Piece", "layers", "I", false)
  | 6 => ("Leadlight$Piece", "thingCount", "I", false)
  | _ => ("Leadlight$Piece", "original", "Z", false)
def tyX2 : Nat → FieldType := fun k => match k with
  | 0 => .array .int
  | 1 => .array .int
  | 2 => .array .int
  | 3 => .int
  | 4 => .int
  | 5 => .int
  | 6 => .int
  | _ => .boolean
abbrev wsX20 : List Cond := u_ws RX2 TX2 8
theorem nmX2 : ∀ a, a < 8 → ∀ b, b < 8 → a ≠ b → (TX2 a).2.1 ≠ (TX2 b).2.1 := by decide +kernel
theorem tyX2_ok : ∀ k, k < 8 → parseFieldDescriptor (TX2 k).2.2.1 = some (tyX2 k) := by decide +kernel
abbrev cX2_init : ByteArray := prog_4_method_1_code
def yX2_init : MethodName := ⟨RX2, "<init>", "(I)V"⟩
abbrev cX2_note : ByteArray := prog_4_method_2_code
def yX2_note : MethodName := ⟨RX2, "note", "(I)V"⟩
abbrev cX2_thingAt : ByteArray := prog_4_method_3_code
def yX2_thingAt : MethodName := ⟨RX2, "thingAt", "(I)I"⟩
abbrev cX2_addLayer : ByteArray := prog_4_method_4_code
def yX2_addLayer : MethodName := ⟨RX2, "addLayer", "(I)V"⟩
abbrev cX2_bearHeat : ByteArray := prog_4_method_5_code
def yX2_bearHeat : MethodName := ⟨RX2, "bearHeat", "(I)I"⟩
abbrev cX2_layersThatAre : ByteArray := prog_4_method_6_code
def yX2_layersThatAre : MethodName := ⟨RX2, "layersThatAre", "(I)I"⟩
abbrev cX2_makeAnew : ByteArray := prog_4_method_7_code
def yX2_makeAnew : MethodName := ⟨RX2, "makeAnew", "(I)V"⟩
def RX3 : String := "Leadlight$Shape"
def TX3 : u_T := fun k => match k with
  | 0 => ("Leadlight$Shape", "rows", "[I", true)
  | _ => ("Leadlight$Shape", "reached", "[I", true)
def tyX3 : Nat → FieldType := fun k => match k with
  | 0 => .array .int
  | _ => .array .int
abbrev wsX30 : List Cond := u_ws RX3 TX3 2
theorem nmX3 : ∀ a, a < 2 → ∀ b, b < 2 → a ≠ b → (TX3 a).2.1 ≠ (TX3 b).2.1 := by decide +kernel
theorem tyX3_ok : ∀ k, k < 2 → parseFieldDescriptor (TX3 k).2.2.1 = some (tyX3 k) := by decide +kernel
abbrev cX3_init : ByteArray := prog_5_method_1_code
def yX3_init : MethodName := ⟨RX3, "<init>", "()V"⟩
abbrev cX3_trace : ByteArray := prog_5_method_2_code
def yX3_trace : MethodName := ⟨RX3, "trace", "(LLeadlight$Cartoon;I)V"⟩
abbrev cX3_takeSide : ByteArray := prog_5_method_3_code
def yX3_takeSide : MethodName := ⟨RX3, "takeSide", "(LLeadlight$Shape;IZ)V"⟩
abbrev cX3_columnsBeyond : ByteArray := prog_5_method_4_code
def yX3_columnsBeyond : MethodName := ⟨RX3, "columnsBeyond", "(II)I"⟩
abbrev cX3_has : ByteArray := prog_5_method_5_code
def yX3_has : MethodName := ⟨RX3, "has", "(I)Z"⟩
abbrev cX3_leave : ByteArray := prog_5_method_6_code
def yX3_leave : MethodName := ⟨RX3, "leave", "(I)V"⟩
abbrev cX3_cellCount : ByteArray := prog_5_method_7_code
def yX3_cellCount : MethodName := ⟨RX3, "cellCount", "()I"⟩
abbrev cX3_height : ByteArray := prog_5_method_8_code
def yX3_height : MethodName := ⟨RX3, "height", "()I"⟩
abbrev cX3_width : ByteArray := prog_5_method_9_code
def yX3_width : MethodName := ⟨RX3, "width", "()I"⟩
abbrev cX3_sidesAlong : ByteArray := prog_5_method_10_code
def yX3_sidesAlong : MethodName := ⟨RX3, "sidesAlong", "(I)I"⟩
abbrev cX3_sidesBehindRow : ByteArray := prog_5_method_11_code
def yX3_sidesBehindRow : MethodName := ⟨RX3, "sidesBehindRow", "(I)I"⟩
abbrev cX3_sidesBehindColumn : ByteArray := prog_5_method_12_code
def yX3_sidesBehindColumn : MethodName := ⟨RX3, "sidesBehindColumn", "(I)I"⟩
abbrev cX3_isGoodPart : ByteArray := prog_5_method_13_code
def yX3_isGoodPart : MethodName := ⟨RX3, "isGoodPart", "()Z"⟩
abbrev cX3_cutFault : ByteArray := prog_5_method_14_code
def yX3_cutFault : MethodName := ⟨RX3, "cutFault", "()I"⟩
abbrev cX3_hasGap : ByteArray := prog_5_method_15_code
def yX3_hasGap : MethodName := ⟨RX3, "hasGap", "()Z"⟩
abbrev cX3_isThin : ByteArray := prog_5_method_16_code
def yX3_isThin : MethodName := ⟨RX3, "isThin", "()Z"⟩
abbrev cX3_squaresBelow : ByteArray := prog_5_method_17_code
def yX3_squaresBelow : MethodName := ⟨RX3, "squaresBelow", "(I)I"⟩
abbrev cX3_isOnePart : ByteArray := prog_5_method_18_code
def yX3_isOnePart : MethodName := ⟨RX3, "isOnePart", "()Z"⟩
abbrev cX3_reachFirst : ByteArray := prog_5_method_19_code
def yX3_reachFirst : MethodName := ⟨RX3, "reachFirst", "()Z"⟩
abbrev cX3_reachFarther : ByteArray := prog_5_method_20_code
def yX3_reachFarther : MethodName := ⟨RX3, "reachFarther", "()Z"⟩
abbrev cX3_runsWith : ByteArray := prog_5_method_21_code
def yX3_runsWith : MethodName := ⟨RX3, "runsWith", "(II)I"⟩
abbrev cX3_reachesAll : ByteArray := prog_5_method_22_code
def yX3_reachesAll : MethodName := ⟨RX3, "reachesAll", "()Z"⟩
def RX4 : String := "Leadlight"
def TX4 : u_T := fun k => match k with
  | 0 => ("Leadlight", "cartoon", "LLeadlight$Cartoon;", true)
  | 1 => ("Leadlight", "made", "Ljava/util/ArrayList;", true)
  | 2 => ("Leadlight", "whole", "LLeadlight$Shape;", true)
  | 3 => ("Leadlight", "near", "LLeadlight$Shape;", true)
  | 4 => ("Leadlight", "far", "LLeadlight$Shape;", true)
  | 5 => ("Leadlight", "laying", "LLeadlight$Laying;", true)
  | 6 => ("Leadlight", "heartWeight", "I", false)
  | 7 => ("Leadlight", "sheetWidth", "I", false)
  | _ => ("Leadlight", "bars", "I", false)
def tyX4 : Nat → FieldType := fun k => match k with
  | 0 => .object "Leadlight$Cartoon"
  | 1 => .object "java/util/ArrayList"
  | 2 => .object "Leadlight$Shape"
  | 3 => .object "Leadlight$Shape"
  | 4 => .object "Leadlight$Shape"
  | 5 => .object "Leadlight$Laying"
  | 6 => .int
  | 7 => .int
  | _ => .int
abbrev wsX40 : List Cond := u_ws RX4 TX4 9
theorem nmX4 : ∀ a, a < 9 → ∀ b, b < 9 → a ≠ b → (TX4 a).2.1 ≠ (TX4 b).2.1 := by decide +kernel
theorem tyX4_ok : ∀ k, k < 9 → parseFieldDescriptor (TX4 k).2.2.1 = some (tyX4 k) := by decide +kernel
abbrev cX4_init : ByteArray := prog_1_method_1_code
def yX4_init : MethodName := ⟨RX4, "<init>", "()V"⟩
abbrev cX4_divide : ByteArray := prog_1_method_2_code
def yX4_divide : MethodName := ⟨RX4, "divide", "(II)I"⟩
abbrev cX4_give : ByteArray := prog_1_method_3_code
def yX4_give : MethodName := ⟨RX4, "give", "(II)I"⟩
abbrev cX4_join : ByteArray := prog_1_method_4_code
def yX4_join : MethodName := ⟨RX4, "join", "(II)I"⟩
abbrev cX4_colour : ByteArray := prog_1_method_5_code
def yX4_colour : MethodName := ⟨RX4, "colour", "(II)I"⟩
abbrev cX4_finish : ByteArray := prog_1_method_6_code
def yX4_finish : MethodName := ⟨RX4, "finish", "()I"⟩
abbrev cX4_heart : ByteArray := prog_1_method_7_code
def yX4_heart : MethodName := ⟨RX4, "heart", "(I)I"⟩
abbrev cX4_sheet : ByteArray := prog_1_method_8_code
def yX4_sheet : MethodName := ⟨RX4, "sheet", "(I)I"⟩
abbrev cX4_bar : ByteArray := prog_1_method_9_code
def yX4_bar : MethodName := ⟨RX4, "bar", "(I)Z"⟩
abbrev cX4_paint : ByteArray := prog_1_method_10_code
def yX4_paint : MethodName := ⟨RX4, "paint", "(II)I"⟩
abbrev cX4_fire : ByteArray := prog_1_method_11_code
def yX4_fire : MethodName := ⟨RX4, "fire", "(II)I"⟩
abbrev cX4_crack : ByteArray := prog_1_method_12_code
def yX4_crack : MethodName := ⟨RX4, "crack", "(I)I"⟩
abbrev cX4_mend : ByteArray := prog_1_method_13_code
def yX4_mend : MethodName := ⟨RX4, "mend", "(I)I"⟩
abbrev cX4_replace : ByteArray := prog_1_method_14_code
def yX4_replace : MethodName := ⟨RX4, "replace", "(II)I"⟩
abbrev cX4_pieces : ByteArray := prog_1_method_15_code
def yX4_pieces : MethodName := ⟨RX4, "pieces", "()I"⟩
abbrev cX4_pieceOf : ByteArray := prog_1_method_16_code
def yX4_pieceOf : MethodName := ⟨RX4, "pieceOf", "(I)I"⟩
abbrev cX4_piece : ByteArray := prog_1_method_17_code
def yX4_piece : MethodName := ⟨RX4, "piece", "(II)I"⟩
abbrev cX4_bestLine : ByteArray := prog_1_method_18_code
def yX4_bestLine : MethodName := ⟨RX4, "bestLine", "(I)I"⟩
abbrev cX4_lead : ByteArray := prog_1_method_19_code
def yX4_lead : MethodName := ⟨RX4, "lead", "()I"⟩
abbrev cX4_joints : ByteArray := prog_1_method_20_code
def yX4_joints : MethodName := ⟨RX4, "joints", "()I"⟩
abbrev cX4_weight : ByteArray := prog_1_method_21_code
def yX4_weight : MethodName := ⟨RX4, "weight", "()I"⟩
abbrev cX4_assembled : ByteArray := prog_1_method_22_code
def yX4_assembled : MethodName := ⟨RX4, "assembled", "(I)I"⟩
abbrev cX4_laid : ByteArray := prog_1_method_24_code
def yX4_laid : MethodName := ⟨RX4, "laid", "(I)I"⟩
abbrev cX4_waste : ByteArray := prog_1_method_25_code
def yX4_waste : MethodName := ⟨RX4, "waste", "(I)I"⟩
abbrev cX4_floor : ByteArray := prog_1_method_26_code
def yX4_floor : MethodName := ⟨RX4, "floor", "(III)I"⟩
abbrev cX4_floorAnew : ByteArray := prog_1_method_27_code
def yX4_floorAnew : MethodName := ⟨RX4, "floorAnew", "(III)I"⟩
abbrev cX4_crosses : ByteArray := prog_1_method_28_code
def yX4_crosses : MethodName := ⟨RX4, "crosses", "(I)I"⟩
abbrev cX4_bends : ByteArray := prog_1_method_29_code
def yX4_bends : MethodName := ⟨RX4, "bends", "(II)I"⟩
abbrev cX4_isShut : ByteArray := prog_1_method_30_code
def yX4_isShut : MethodName := ⟨RX4, "isShut", "()Z"⟩
abbrev cX4_history : ByteArray := prog_1_method_31_code
def yX4_history : MethodName := ⟨RX4, "history", "(II)I"⟩
abbrev cX4_isRowLine : ByteArray := prog_1_method_32_code
def yX4_isRowLine : MethodName := ⟨RX4, "isRowLine", "(I)Z"⟩
abbrev cX4_isLine : ByteArray := prog_1_method_33_code
def yX4_isLine : MethodName := ⟨RX4, "isLine", "(I)Z"⟩
abbrev cX4_isNumber : ByteArray := prog_1_method_34_code
def yX4_isNumber : MethodName := ⟨RX4, "isNumber", "(I)Z"⟩
abbrev cX4_isMade : ByteArray := prog_1_method_35_code
def yX4_isMade : MethodName := ⟨RX4, "isMade", "(I)Z"⟩
abbrev cX4_thePiece : ByteArray := prog_1_method_36_code
def yX4_thePiece : MethodName := ⟨RX4, "thePiece", "(I)LLeadlight$Piece;"⟩
abbrev cX4_theOwner : ByteArray := prog_1_method_37_code
def yX4_theOwner : MethodName := ⟨RX4, "theOwner", "(I)I"⟩
abbrev cX4_testColour : ByteArray := prog_1_method_38_code
def yX4_testColour : MethodName := ⟨RX4, "testColour", "(I)V"⟩
abbrev cX4_testRowLine : ByteArray := prog_1_method_39_code
def yX4_testRowLine : MethodName := ⟨RX4, "testRowLine", "(I)V"⟩
abbrev cX4_testHour : ByteArray := prog_1_method_40_code
def yX4_testHour : MethodName := ⟨RX4, "testHour", "(I)V"⟩
abbrev cX4_shapeOf : ByteArray := prog_1_method_41_code
def yX4_shapeOf : MethodName := ⟨RX4, "shapeOf", "(I)LLeadlight$Shape;"⟩
abbrev cX4_splitWhole : ByteArray := prog_1_method_42_code
def yX4_splitWhole : MethodName := ⟨RX4, "splitWhole", "(I)V"⟩
abbrev cX4_partsAreGood : ByteArray := prog_1_method_43_code
def yX4_partsAreGood : MethodName := ⟨RX4, "partsAreGood", "(I)Z"⟩
abbrev cX4_brokenPieces : ByteArray := prog_1_method_44_code
def yX4_brokenPieces : MethodName := ⟨RX4, "brokenPieces", "()I"⟩
abbrev cX4_layColour : ByteArray := prog_1_method_45_code
def yX4_layColour : MethodName := ⟨RX4, "layColour", "(I)V"⟩
abbrev cX4_sunAt : ByteArray := prog_1_method_46_code
def yX4_sunAt : MethodName := ⟨RX4, "sunAt", "(I)I"⟩
abbrev cX4_depthOf : ByteArray := prog_1_method_47_code
def yX4_depthOf : MethodName := ⟨RX4, "depthOf", "(II)I"⟩
abbrev cX4_drift : ByteArray := prog_1_method_48_code
def yX4_drift : MethodName := ⟨RX4, "drift", "(II)I"⟩
abbrev cX4_colourBit : ByteArray := prog_1_method_49_code
def yX4_colourBit : MethodName := ⟨RX4, "colourBit", "(II)I"⟩
abbrev cX4_hasBar : ByteArray := prog_1_method_50_code
def yX4_hasBar : MethodName := ⟨RX4, "hasBar", "(I)Z"⟩
abbrev cX4_rowsOf : ByteArray := prog_1_method_51_code
def yX4_rowsOf : MethodName := ⟨RX4, "rowsOf", "(I)I"⟩
def RX5 : String := "LeadlightModel"
def TX5 : u_T := fun k => match k with
  | _ => ("", "", "", false)
def tyX5 : Nat → FieldType := fun k => match k with
  | _ => .int
abbrev wsX50 : List Cond := u_ws RX5 TX5 0
theorem nmX5 : ∀ a, a < 0 → ∀ b, b < 0 → a ≠ b → (TX5 a).2.1 ≠ (TX5 b).2.1 := by decide +kernel
theorem tyX5_ok : ∀ k, k < 0 → parseFieldDescriptor (TX5 k).2.2.1 = some (tyX5 k) := by decide +kernel
def RJx145de : String := "java/io/Serializable"
def TJx145de : u_T := fun k => match k with
  | _ => ("", "", "", false)
def tyJx145de : Nat → FieldType := fun k => match k with
  | _ => .int
abbrev wsJx145de0 : List Cond := u_ws RJx145de TJx145de 0
theorem nmJx145de : ∀ a, a < 0 → ∀ b, b < 0 → a ≠ b → (TJx145de a).2.1 ≠ (TJx145de b).2.1 := by decide +kernel
theorem tyJx145de_ok : ∀ k, k < 0 → parseFieldDescriptor (TJx145de k).2.2.1 = some (tyJx145de k) := by decide +kernel
def RJx8e188 : String := "java/lang/Cloneable"
def TJx8e188 : u_T := fun k => match k with
  | _ => ("", "", "", false)
def tyJx8e188 : Nat → FieldType := fun k => match k with
  | _ => .int
abbrev wsJx8e1880 : List Cond := u_ws RJx8e188 TJx8e188 0
theorem nmJx8e188 : ∀ a, a < 0 → ∀ b, b < 0 → a ≠ b → (TJx8e188 a).2.1 ≠ (TJx8e188 b).2.1 := by decide +kernel
theorem tyJx8e188_ok : ∀ k, k < 0 → parseFieldDescriptor (TJx8e188 k).2.2.1 = some (tyJx8e188 k) := by decide +kernel
def RJ6 : String := "java/lang/Integer"
def TJ6 : u_T := fun k => match k with
  | _ => ("", "", "", false)
def tyJ6 : Nat → FieldType := fun k => match k with
  | _ => .int
abbrev wsJ60 : List Cond := u_ws RJ6 TJ6 0
theorem nmJ6 : ∀ a, a < 0 → ∀ b, b < 0 → a ≠ b → (TJ6 a).2.1 ≠ (TJ6 b).2.1 := by decide +kernel
theorem tyJ6_ok : ∀ k, k < 0 → parseFieldDescriptor (TJ6 k).2.2.1 = some (tyJ6 k) := by decide +kernel
abbrev cJ6_bitCount_0f7a4 : ByteArray := prog_14_method_49_code
def yJ6_bitCount_0f7a4 : MethodName := ⟨RJ6, "bitCount", "(I)I"⟩
def RJxab1ab : String := "java/lang/Iterable"
def TJxab1ab : u_T := fun k => match k with
  | _ => ("", "", "", false)
def tyJxab1ab : Nat → FieldType := fun k => match k with
  | _ => .int
abbrev wsJxab1ab0 : List Cond := u_ws RJxab1ab TJxab1ab 0
theorem nmJxab1ab : ∀ a, a < 0 → ∀ b, b < 0 → a ≠ b → (TJxab1ab a).2.1 ≠ (TJxab1ab b).2.1 := by decide +kernel
theorem tyJxab1ab_ok : ∀ k, k < 0 → parseFieldDescriptor (TJxab1ab k).2.2.1 = some (tyJxab1ab k) := by decide +kernel
def RJ13 : String := "java/lang/Long"
def TJ13 : u_T := fun k => match k with
  | _ => ("", "", "", false)
def tyJ13 : Nat → FieldType := fun k => match k with
  | _ => .int
abbrev wsJ130 : List Cond := u_ws RJ13 TJ13 0
theorem nmJ13 : ∀ a, a < 0 → ∀ b, b < 0 → a ≠ b → (TJ13 a).2.1 ≠ (TJ13 b).2.1 := by decide +kernel
theorem tyJ13_ok : ∀ k, k < 0 → parseFieldDescriptor (TJ13 k).2.2.1 = some (tyJ13 k) := by decide +kernel
abbrev cJ13_bitCount_95d88 : ByteArray := prog_16_method_50_code
def yJ13_bitCount_95d88 : MethodName := ⟨RJ13, "bitCount", "(J)I"⟩
def RJ9 : String := "java/lang/Math"
def TJ9 : u_T := fun k => match k with
  | _ => ("", "", "", false)
def tyJ9 : Nat → FieldType := fun k => match k with
  | _ => .int
abbrev wsJ90 : List Cond := u_ws RJ9 TJ9 0
theorem nmJ9 : ∀ a, a < 0 → ∀ b, b < 0 → a ≠ b → (TJ9 a).2.1 ≠ (TJ9 b).2.1 := by decide +kernel
theorem tyJ9_ok : ∀ k, k < 0 → parseFieldDescriptor (TJ9 k).2.2.1 = some (tyJ9 k) := by decide +kernel
abbrev cJ9_floorDiv_7cf53 : ByteArray := prog_17_method_47_code
def yJ9_floorDiv_7cf53 : MethodName := ⟨RJ9, "floorDiv", "(II)I"⟩
abbrev cJ9_abs_0f7a4 : ByteArray := prog_17_method_59_code
def yJ9_abs_0f7a4 : MethodName := ⟨RJ9, "abs", "(I)I"⟩
abbrev cJ9_max_7cf53 : ByteArray := prog_17_method_65_code
def yJ9_max_7cf53 : MethodName := ⟨RJ9, "max", "(II)I"⟩
abbrev cJ9_min_7cf53 : ByteArray := prog_17_method_69_code
def yJ9_min_7cf53 : MethodName := ⟨RJ9, "min", "(II)I"⟩
def RJ0 : String := "java/lang/String"
def TJ0 : u_T := fun k => match k with
  | _ => ("", "", "", false)
def tyJ0 : Nat → FieldType := fun k => match k with
  | _ => .int
abbrev wsJ00 : List Cond := u_ws RJ0 TJ0 0
theorem nmJ0 : ∀ a, a < 0 → ∀ b, b < 0 → a ≠ b → (TJ0 a).2.1 ≠ (TJ0 b).2.1 := by decide +kernel
theorem tyJ0_ok : ∀ k, k < 0 → parseFieldDescriptor (TJ0 k).2.2.1 = some (tyJ0 k) := by decide +kernel
def RJ10 : String := "java/lang/System"
def TJ10 : u_T := fun k => match k with
  | _ => ("", "", "", false)
def tyJ10 : Nat → FieldType := fun k => match k with
  | _ => .int
abbrev wsJ100 : List Cond := u_ws RJ10 TJ10 0
theorem nmJ10 : ∀ a, a < 0 → ∀ b, b < 0 → a ≠ b → (TJ10 a).2.1 ≠ (TJ10 b).2.1 := by decide +kernel
theorem tyJ10_ok : ∀ k, k < 0 → parseFieldDescriptor (TJ10 k).2.2.1 = some (tyJ10 k) := by decide +kernel
def RJxa1e45 : String := "java/util/AbstractCollection"
def TJxa1e45 : u_T := fun k => match k with
  | _ => ("", "", "", false)
def tyJxa1e45 : Nat → FieldType := fun k => match k with
  | _ => .int
abbrev wsJxa1e450 : List Cond := u_ws RJxa1e45 TJxa1e45 0
theorem nmJxa1e45 : ∀ a, a < 0 → ∀ b, b < 0 → a ≠ b → (TJxa1e45 a).2.1 ≠ (TJxa1e45 b).2.1 := by decide +kernel
theorem tyJxa1e45_ok : ∀ k, k < 0 → parseFieldDescriptor (TJxa1e45 k).2.2.1 = some (tyJxa1e45 k) := by decide +kernel
abbrev cJxa1e45_init_da8c8 : ByteArray := prog_22_method_1_code
def yJxa1e45_init_da8c8 : MethodName := ⟨RJxa1e45, "<init>", "()V"⟩
def RJxc12de : String := "java/util/AbstractList"
def TJxc12de : u_T := fun k => match k with
  | _ => ("", "", "", false)
def tyJxc12de : Nat → FieldType := fun k => match k with
  | _ => .int
abbrev wsJxc12de0 : List Cond := u_ws RJxc12de TJxc12de 0
theorem nmJxc12de : ∀ a, a < 0 → ∀ b, b < 0 → a ≠ b → (TJxc12de a).2.1 ≠ (TJxc12de b).2.1 := by decide +kernel
theorem tyJxc12de_ok : ∀ k, k < 0 → parseFieldDescriptor (TJxc12de k).2.2.1 = some (tyJxc12de k) := by decide +kernel
abbrev cJxc12de_init_da8c8 : ByteArray := prog_23_method_1_code
def yJxc12de_init_da8c8 : MethodName := ⟨RJxc12de, "<init>", "()V"⟩
def RJx4a65c : String := "java/util/ArrayList"
def TJx4a65c : u_T := fun k => match k with
  | 0 => ("java/util/AbstractList", "modCount", "I", false)
  | 1 => ("java/util/ArrayList", "elementData", "[Ljava/lang/Object;", false)
  | _ => ("java/util/ArrayList", "size", "I", false)
def tyJx4a65c : Nat → FieldType := fun k => match k with
  | 0 => .int
  | 1 => .array (.object "java/lang/Object")
  | _ => .int
abbrev wsJx4a65c0 : List Cond := u_ws RJx4a65c TJx4a65c 3
theorem nmJx4a65c : ∀ a, a < 3 → ∀ b, b < 3 → a ≠ b → (TJx4a65c a).2.1 ≠ (TJx4a65c b).2.1 := by decide +kernel
theorem tyJx4a65c_ok : ∀ k, k < 3 → parseFieldDescriptor (TJx4a65c k).2.2.1 = some (tyJx4a65c k) := by decide +kernel
abbrev cJx4a65c_init_da8c8 : ByteArray := prog_24_method_2_code
def yJx4a65c_init_da8c8 : MethodName := ⟨RJx4a65c, "<init>", "()V"⟩
abbrev cJx4a65c_grow_92f84 : ByteArray := prog_24_method_6_code
def yJx4a65c_grow_92f84 : MethodName := ⟨RJx4a65c, "grow", "(I)[Ljava/lang/Object;"⟩
abbrev cJx4a65c_grow_d5877 : ByteArray := prog_24_method_7_code
def yJx4a65c_grow_d5877 : MethodName := ⟨RJx4a65c, "grow", "()[Ljava/lang/Object;"⟩
abbrev cJx4a65c_size_8abf5 : ByteArray := prog_24_method_8_code
def yJx4a65c_size_8abf5 : MethodName := ⟨RJx4a65c, "size", "()I"⟩
abbrev cJx4a65c_elementData_915e3 : ByteArray := prog_24_method_18_code
def yJx4a65c_elementData_915e3 : MethodName := ⟨RJx4a65c, "elementData", "(I)Ljava/lang/Object;"⟩
abbrev cJx4a65c_get_915e3 : ByteArray := prog_24_method_20_code
def yJx4a65c_get_915e3 : MethodName := ⟨RJx4a65c, "get", "(I)Ljava/lang/Object;"⟩
abbrev cJx4a65c_add_72be8 : ByteArray := prog_24_method_24_code
def yJx4a65c_add_72be8 : MethodName := ⟨RJx4a65c, "add", "(Ljava/lang/Object;[Ljava/lang/Object;I)V"⟩
abbrev cJx4a65c_add_9ea2d : ByteArray := prog_24_method_25_code
def yJx4a65c_add_9ea2d : MethodName := ⟨RJx4a65c, "add", "(Ljava/lang/Object;)Z"⟩
def RJ7 : String := "java/util/Arrays"
def TJ7 : u_T := fun k => match k with
  | _ => ("", "", "", false)
def tyJ7 : Nat → FieldType := fun k => match k with
  | _ => .int
abbrev wsJ70 : List Cond := u_ws RJ7 TJ7 0
theorem nmJ7 : ∀ a, a < 0 → ∀ b, b < 0 → a ≠ b → (TJ7 a).2.1 ≠ (TJ7 b).2.1 := by decide +kernel
theorem tyJ7_ok : ∀ k, k < 0 → parseFieldDescriptor (TJ7 k).2.2.1 = some (tyJ7 k) := by decide +kernel
abbrev cJ7_fill_d0a16 : ByteArray := prog_25_method_101_code
def yJ7_fill_d0a16 : MethodName := ⟨RJ7, "fill", "([JJ)V"⟩
abbrev cJ7_fill_53178 : ByteArray := prog_25_method_103_code
def yJ7_fill_53178 : MethodName := ⟨RJ7, "fill", "([II)V"⟩
abbrev cJ7_copyOf_1904c : ByteArray := prog_25_method_119_code
def yJ7_copyOf_1904c : MethodName := ⟨RJ7, "copyOf", "([Ljava/lang/Object;I)[Ljava/lang/Object;"⟩
abbrev cJ7_copyOf_6403c : ByteArray := prog_25_method_120_code
def yJ7_copyOf_6403c : MethodName := ⟨RJ7, "copyOf", "([Ljava/lang/Object;ILjava/lang/Class;)[Ljava/lang/Object;"⟩
def RJx5ef63 : String := "java/util/Collection"
def TJx5ef63 : u_T := fun k => match k with
  | _ => ("", "", "", false)
def tyJx5ef63 : Nat → FieldType := fun k => match k with
  | _ => .int
abbrev wsJx5ef630 : List Cond := u_ws RJx5ef63 TJx5ef63 0
theorem nmJx5ef63 : ∀ a, a < 0 → ∀ b, b < 0 → a ≠ b → (TJx5ef63 a).2.1 ≠ (TJx5ef63 b).2.1 := by decide +kernel
theorem tyJx5ef63_ok : ∀ k, k < 0 → parseFieldDescriptor (TJx5ef63 k).2.2.1 = some (tyJx5ef63 k) := by decide +kernel
def RJxbd725 : String := "java/util/List"
def TJxbd725 : u_T := fun k => match k with
  | _ => ("", "", "", false)
def tyJxbd725 : Nat → FieldType := fun k => match k with
  | _ => .int
abbrev wsJxbd7250 : List Cond := u_ws RJxbd725 TJxbd725 0
theorem nmJxbd725 : ∀ a, a < 0 → ∀ b, b < 0 → a ≠ b → (TJxbd725 a).2.1 ≠ (TJxbd725 b).2.1 := by decide +kernel
theorem tyJxbd725_ok : ∀ k, k < 0 → parseFieldDescriptor (TJxbd725 k).2.2.1 = some (tyJxbd725 k) := by decide +kernel
def RJ15 : String := "java/util/Objects"
def TJ15 : u_T := fun k => match k with
  | _ => ("", "", "", false)
def tyJ15 : Nat → FieldType := fun k => match k with
  | _ => .int
abbrev wsJ150 : List Cond := u_ws RJ15 TJ15 0
theorem nmJ15 : ∀ a, a < 0 → ∀ b, b < 0 → a ≠ b → (TJ15 a).2.1 ≠ (TJ15 b).2.1 := by decide +kernel
theorem tyJ15_ok : ∀ k, k < 0 → parseFieldDescriptor (TJ15 k).2.2.1 = some (tyJ15 k) := by decide +kernel
abbrev cJ15_checkIndex_7cf53 : ByteArray := prog_28_method_17_code
def yJ15_checkIndex_7cf53 : MethodName := ⟨RJ15, "checkIndex", "(II)I"⟩
def RJxf0a74 : String := "java/util/RandomAccess"
def TJxf0a74 : u_T := fun k => match k with
  | _ => ("", "", "", false)
def tyJxf0a74 : Nat → FieldType := fun k => match k with
  | _ => .int
abbrev wsJxf0a740 : List Cond := u_ws RJxf0a74 TJxf0a74 0
theorem nmJxf0a74 : ∀ a, a < 0 → ∀ b, b < 0 → a ≠ b → (TJxf0a74 a).2.1 ≠ (TJxf0a74 b).2.1 := by decide +kernel
theorem tyJxf0a74_ok : ∀ k, k < 0 → parseFieldDescriptor (TJxf0a74 k).2.2.1 = some (tyJxf0a74 k) := by decide +kernel
def RJxa66e6 : String := "java/util/SequencedCollection"
def TJxa66e6 : u_T := fun k => match k with
  | _ => ("", "", "", false)
def tyJxa66e6 : Nat → FieldType := fun k => match k with
  | _ => .int
abbrev wsJxa66e60 : List Cond := u_ws RJxa66e6 TJxa66e6 0
theorem nmJxa66e6 : ∀ a, a < 0 → ∀ b, b < 0 → a ≠ b → (TJxa66e6 a).2.1 ≠ (TJxa66e6 b).2.1 := by decide +kernel
theorem tyJxa66e6_ok : ∀ k, k < 0 → parseFieldDescriptor (TJxa66e6 k).2.2.1 = some (tyJxa66e6 k) := by decide +kernel
def RJ8 : String := "jdk/internal/util/ArraysSupport"
def TJ8 : u_T := fun k => match k with
  | _ => ("", "", "", false)
def tyJ8 : Nat → FieldType := fun k => match k with
  | _ => .int
abbrev wsJ80 : List Cond := u_ws RJ8 TJ8 0
theorem nmJ8 : ∀ a, a < 0 → ∀ b, b < 0 → a ≠ b → (TJ8 a).2.1 ≠ (TJ8 b).2.1 := by decide +kernel
theorem tyJ8_ok : ∀ k, k < 0 → parseFieldDescriptor (TJ8 k).2.2.1 = some (tyJ8 k) := by decide +kernel
abbrev cJ8_newLength_cabcc : ByteArray := prog_31_method_27_code
def yJ8_newLength_cabcc : MethodName := ⟨RJ8, "newLength", "(III)I"⟩
abbrev cJ8_hugeLength_7cf53 : ByteArray := prog_31_method_28_code
def yJ8_hugeLength_7cf53 : MethodName := ⟨RJ8, "hugeLength", "(II)I"⟩
def RJ3 : String := "jdk/internal/util/Preconditions"
def TJ3 : u_T := fun k => match k with
  | _ => ("", "", "", false)
def tyJ3 : Nat → FieldType := fun k => match k with
  | _ => .int
abbrev wsJ30 : List Cond := u_ws RJ3 TJ3 0
theorem nmJ3 : ∀ a, a < 0 → ∀ b, b < 0 → a ≠ b → (TJ3 a).2.1 ≠ (TJ3 b).2.1 := by decide +kernel
theorem tyJ3_ok : ∀ k, k < 0 → parseFieldDescriptor (TJ3 k).2.2.1 = some (tyJ3 k) := by decide +kernel
abbrev cJ3_checkIndex_8e157 : ByteArray := prog_32_method_11_code
def yJ3_checkIndex_8e157 : MethodName := ⟨RJ3, "checkIndex", "(IILjava/util/function/BiFunction;)I"⟩
def RL : String := "LeadlightLaw"
abbrev cL_cell : ByteArray := method_2_code
def yL_cell : MethodName := ⟨RL, "cell", "([II)I"⟩
abbrev cL_low : ByteArray := method_3_code
def yL_low : MethodName := ⟨RL, "low", "(II)I"⟩
abbrev cL_divide : ByteArray := method_4_code
def yL_divide : MethodName := ⟨RL, "divide", "(LLeadlight;II)I"⟩
abbrev cL_give : ByteArray := method_5_code
def yL_give : MethodName := ⟨RL, "give", "(LLeadlight;II)I"⟩
abbrev cL_join : ByteArray := method_6_code
def yL_join : MethodName := ⟨RL, "join", "(LLeadlight;II)I"⟩
abbrev cL_colour : ByteArray := method_7_code
def yL_colour : MethodName := ⟨RL, "colour", "(LLeadlight;II)I"⟩
abbrev cL_heart : ByteArray := method_8_code
def yL_heart : MethodName := ⟨RL, "heart", "(LLeadlight;I)I"⟩
abbrev cL_sheet : ByteArray := method_9_code
def yL_sheet : MethodName := ⟨RL, "sheet", "(LLeadlight;I)I"⟩
abbrev cL_bar : ByteArray := method_10_code
def yL_bar : MethodName := ⟨RL, "bar", "(LLeadlight;I)I"⟩
abbrev cL_paint : ByteArray := method_11_code
def yL_paint : MethodName := ⟨RL, "paint", "(LLeadlight;II)I"⟩
abbrev cL_fire : ByteArray := method_12_code
def yL_fire : MethodName := ⟨RL, "fire", "(LLeadlight;II)I"⟩
abbrev cL_crack : ByteArray := method_13_code
def yL_crack : MethodName := ⟨RL, "crack", "(LLeadlight;I)I"⟩
abbrev cL_mend : ByteArray := method_14_code
def yL_mend : MethodName := ⟨RL, "mend", "(LLeadlight;I)I"⟩
abbrev cL_replace : ByteArray := method_15_code
def yL_replace : MethodName := ⟨RL, "replace", "(LLeadlight;II)I"⟩
abbrev cL_pieceOf : ByteArray := method_16_code
def yL_pieceOf : MethodName := ⟨RL, "pieceOf", "(LLeadlight;I)I"⟩
abbrev cL_piece : ByteArray := method_17_code
def yL_piece : MethodName := ⟨RL, "piece", "(LLeadlight;II)I"⟩
abbrev cL_best : ByteArray := method_18_code
def yL_best : MethodName := ⟨RL, "best", "(LLeadlight;I)I"⟩
abbrev cL_laid : ByteArray := method_20_code
def yL_laid : MethodName := ⟨RL, "laid", "(LLeadlight;I)I"⟩
abbrev cL_waste : ByteArray := method_21_code
def yL_waste : MethodName := ⟨RL, "waste", "(LLeadlight;I)I"⟩
abbrev cL_floor : ByteArray := method_22_code
def yL_floor : MethodName := ⟨RL, "floor", "(LLeadlight;III)I"⟩
abbrev cL_anew : ByteArray := method_23_code
def yL_anew : MethodName := ⟨RL, "anew", "(LLeadlight;III)I"⟩
abbrev cL_crosses : ByteArray := method_24_code
def yL_crosses : MethodName := ⟨RL, "crosses", "(LLeadlight;I)I"⟩
abbrev cL_bends : ByteArray := method_25_code
def yL_bends : MethodName := ⟨RL, "bends", "(LLeadlight;II)I"⟩
abbrev cL_history : ByteArray := method_26_code
def yL_history : MethodName := ⟨RL, "history", "(LLeadlight;II)I"⟩
abbrev cL_act : ByteArray := method_27_code
def yL_act : MethodName := ⟨RL, "act", "(LLeadlight;II)I"⟩
abbrev cL_areAlike : ByteArray := method_28_code
def yL_areAlike : MethodName := ⟨RL, "areAlike", "(LLeadlight;LLeadlight;I)Z"⟩
abbrev cL_isSo : ByteArray := method_29_code
def yL_isSo : MethodName := ⟨RL, "isSo", "(LLeadlight;I)Z"⟩
abbrev cL_law : ByteArray := code
def yL_law : MethodName := ⟨RL, "law", "([I)Z"⟩
abbrev vwCl : List vw_C := [(RJx4a65c, TJx4a65c, 3), (RX0, TX0, 2), (RX1, TX1, 9), (RX2, TX2, 8), (RX3, TX3, 2), (RX4, TX4, 9)]
