/-! ===== BEGIN printed: names, fields, word lists, decode rows ===== -/
def RX0 : String := "Creasebook$Form"
def TX0 : u_T := fun k => match k with
  | 0 => ("Creasebook$Form", "cells", "I", false)
  | 1 => ("Creasebook$Form", "columns", "I", false)
  | 2 => ("Creasebook$Form", "rows", "I", false)
  | 3 => ("Creasebook$Form", "column", "[I", true)
  | 4 => ("Creasebook$Form", "row", "[I", true)
  | 5 => ("Creasebook$Form", "layer", "[I", true)
  | 6 => ("Creasebook$Form", "isUp", "[Z", true)
  | _ => ("Creasebook$Form", "height", "[I", true)
def tyX0 : Nat → FieldType := fun k => match k with
  | 0 => .int
  | 1 => .int
  | 2 => .int
  | 3 => .array .int
  | 4 => .array .int
  | 5 => .array .int
  | 6 => .array .boolean
  | _ => .array .int
abbrev wsX00 : List Cond := u_ws RX0 TX0 8
theorem nmX0 : ∀ a, a < 8 → ∀ b, b < 8 → a ≠ b → (TX0 a).2.1 ≠ (TX0 b).2.1 := by decide +kernel
theorem tyX0_ok : ∀ k, k < 8 → parseFieldDescriptor (TX0 k).2.2.1 = some (tyX0 k) := by decide +kernel
abbrev cX0_init : ByteArray := prog_2_method_1_code
def yX0_init : MethodName := ⟨RX0, "<init>", "()V"⟩
abbrev cX0_spread : ByteArray := prog_2_method_2_code
def yX0_spread : MethodName := ⟨RX0, "spread", "(II)V"⟩
abbrev cX0_copyFrom : ByteArray := prog_2_method_3_code
def yX0_copyFrom : MethodName := ⟨RX0, "copyFrom", "(LCreasebook$Form;)V"⟩
abbrev cX0_becomeFolded : ByteArray := prog_2_method_4_code
def yX0_becomeFolded : MethodName := ⟨RX0, "becomeFolded", "(LCreasebook$Form;I)V"⟩
abbrev cX0_layerBehind : ByteArray := prog_2_method_5_code
def yX0_layerBehind : MethodName := ⟨RX0, "layerBehind", "(II)I"⟩
abbrev cX0_turnOver : ByteArray := prog_2_method_6_code
def yX0_turnOver : MethodName := ⟨RX0, "turnOver", "()V"⟩
abbrev cX0_turnRound : ByteArray := prog_2_method_7_code
def yX0_turnRound : MethodName := ⟨RX0, "turnRound", "()V"⟩
abbrev cX0_measurePiles : ByteArray := prog_2_method_8_code
def yX0_measurePiles : MethodName := ⟨RX0, "measurePiles", "()V"⟩
abbrev cX0_places : ByteArray := prog_2_method_9_code
def yX0_places : MethodName := ⟨RX0, "places", "()I"⟩
abbrev cX0_hasPlace : ByteArray := prog_2_method_10_code
def yX0_hasPlace : MethodName := ⟨RX0, "hasPlace", "(II)Z"⟩
abbrev cX0_hasLine : ByteArray := prog_2_method_11_code
def yX0_hasLine : MethodName := ⟨RX0, "hasLine", "(II)Z"⟩
abbrev cX0_heightAt : ByteArray := prog_2_method_12_code
def yX0_heightAt : MethodName := ⟨RX0, "heightAt", "(II)I"⟩
abbrev cX0_liesAt : ByteArray := prog_2_method_13_code
def yX0_liesAt : MethodName := ⟨RX0, "liesAt", "(III)Z"⟩
abbrev cX0_cellAt : ByteArray := prog_2_method_14_code
def yX0_cellAt : MethodName := ⟨RX0, "cellAt", "(III)I"⟩
abbrev cX0_highestAt : ByteArray := prog_2_method_15_code
def yX0_highestAt : MethodName := ⟨RX0, "highestAt", "(II)I"⟩
abbrev cX0_layerFromAbove : ByteArray := prog_2_method_16_code
def yX0_layerFromAbove : MethodName := ⟨RX0, "layerFromAbove", "(I)I"⟩
abbrev cX0_isOutermost : ByteArray := prog_2_method_17_code
def yX0_isOutermost : MethodName := ⟨RX0, "isOutermost", "(IZ)Z"⟩
abbrev cX0_isFrontUp : ByteArray := prog_2_method_18_code
def yX0_isFrontUp : MethodName := ⟨RX0, "isFrontUp", "(I)Z"⟩
abbrev cX0_isJustUpon : ByteArray := prog_2_method_19_code
def yX0_isJustUpon : MethodName := ⟨RX0, "isJustUpon", "(II)Z"⟩
abbrev cX0_goes : ByteArray := prog_2_method_20_code
def yX0_goes : MethodName := ⟨RX0, "goes", "(II)Z"⟩
abbrev cX0_mirroredColumn : ByteArray := prog_2_method_21_code
def yX0_mirroredColumn : MethodName := ⟨RX0, "mirroredColumn", "(II)I"⟩
abbrev cX0_mirroredRow : ByteArray := prog_2_method_22_code
def yX0_mirroredRow : MethodName := ⟨RX0, "mirroredRow", "(II)I"⟩
abbrev cX0_isLineBetween : ByteArray := prog_2_method_23_code
def yX0_isLineBetween : MethodName := ⟨RX0, "isLineBetween", "(III)Z"⟩
abbrev cX0_highestPile : ByteArray := prog_2_method_24_code
def yX0_highestPile : MethodName := ⟨RX0, "highestPile", "()I"⟩
abbrev cX0_frontsSeenFromAbove : ByteArray := prog_2_method_25_code
def yX0_frontsSeenFromAbove : MethodName := ⟨RX0, "frontsSeenFromAbove", "()I"⟩
abbrev cX0_frontsSeenFromBelow : ByteArray := prog_2_method_26_code
def yX0_frontsSeenFromBelow : MethodName := ⟨RX0, "frontsSeenFromBelow", "()I"⟩
def RX1 : String := "Creasebook$Paper"
def TX1 : u_T := fun k => match k with
  | 0 => ("Creasebook$Paper", "wide", "I", false)
  | 1 => ("Creasebook$Paper", "high", "I", false)
  | 2 => ("Creasebook$Paper", "cells", "I", false)
  | 3 => ("Creasebook$Paper", "crease", "[I", true)
  | 4 => ("Creasebook$Paper", "creasedBy", "[I", true)
  | 5 => ("Creasebook$Paper", "marks", "[I", true)
  | 6 => ("Creasebook$Paper", "ink", "[I", true)
  | 7 => ("Creasebook$Paper", "holes", "[I", true)
  | _ => ("Creasebook$Paper", "glued", "[I", true)
def tyX1 : Nat → FieldType := fun k => match k with
  | 0 => .int
  | 1 => .int
  | 2 => .int
  | 3 => .array .int
  | 4 => .array .int
  | 5 => .array .int
  | 6 => .array .int
  | 7 => .array .int
  | _ => .array .int
abbrev wsX10 : List Cond := u_ws RX1 TX1 9
theorem nmX1 : ∀ a, a < 9 → ∀ b, b < 9 → a ≠ b → (TX1 a).2.1 ≠ (TX1 b).2.1 := by decide +kernel
theorem tyX1_ok : ∀ k, k < 9 → parseFieldDescriptor (TX1 k).2.2.1 = some (tyX1 k) := by decide +kernel
abbrev cX1_init : ByteArray := prog_3_method_1_code
def yX1_init : MethodName := ⟨RX1, "<init>", "()V"⟩
abbrev cX1_renew : ByteArray := prog_3_method_2_code
def yX1_renew : MethodName := ⟨RX1, "renew", "(II)V"⟩
abbrev cX1_hasCell : ByteArray := prog_3_method_3_code
def yX1_hasCell : MethodName := ⟨RX1, "hasCell", "(I)Z"⟩
abbrev cX1_cellBeside : ByteArray := prog_3_method_4_code
def yX1_cellBeside : MethodName := ⟨RX1, "cellBeside", "(IZ)I"⟩
abbrev cX1_press : ByteArray := prog_3_method_5_code
def yX1_press : MethodName := ⟨RX1, "press", "(III)V"⟩
abbrev cX1_smoothCreasesOf : ByteArray := prog_3_method_6_code
def yX1_smoothCreasesOf : MethodName := ⟨RX1, "smoothCreasesOf", "(I)V"⟩
abbrev cX1_creasesOf : ByteArray := prog_3_method_7_code
def yX1_creasesOf : MethodName := ⟨RX1, "creasesOf", "(I)I"⟩
abbrev cX1_countCreases : ByteArray := prog_3_method_9_code
def yX1_countCreases : MethodName := ⟨RX1, "countCreases", "(I)I"⟩
abbrev cX1_sumOfMarks : ByteArray := prog_3_method_10_code
def yX1_sumOfMarks : MethodName := ⟨RX1, "sumOfMarks", "()I"⟩
abbrev cX1_isWet : ByteArray := prog_3_method_11_code
def yX1_isWet : MethodName := ⟨RX1, "isWet", "(I)Z"⟩
abbrev cX1_wet : ByteArray := prog_3_method_12_code
def yX1_wet : MethodName := ⟨RX1, "wet", "(I)Z"⟩
abbrev cX1_dryAll : ByteArray := prog_3_method_13_code
def yX1_dryAll : MethodName := ⟨RX1, "dryAll", "()I"⟩
abbrev cX1_countSides : ByteArray := prog_3_method_14_code
def yX1_countSides : MethodName := ⟨RX1, "countSides", "(I)I"⟩
abbrev cX1_sumOfHoles : ByteArray := prog_3_method_15_code
def yX1_sumOfHoles : MethodName := ⟨RX1, "sumOfHoles", "()I"⟩
abbrev cX1_areGlued : ByteArray := prog_3_method_16_code
def yX1_areGlued : MethodName := ⟨RX1, "areGlued", "(II)Z"⟩
abbrev cX1_stick : ByteArray := prog_3_method_17_code
def yX1_stick : MethodName := ⟨RX1, "stick", "(II)V"⟩
def RX2 : String := "Creasebook"
def TX2 : u_T := fun k => match k with
  | 0 => ("Creasebook", "paper", "LCreasebook$Paper;", true)
  | 1 => ("Creasebook", "form", "LCreasebook$Form;", true)
  | 2 => ("Creasebook", "trial", "LCreasebook$Form;", true)
  | 3 => ("Creasebook", "past", "[LCreasebook$Form;", true)
  | 4 => ("Creasebook", "pastCode", "[I", true)
  | 5 => ("Creasebook", "folds", "I", false)
  | 6 => ("Creasebook", "blots", "I", false)
  | _ => ("Creasebook", "refusals", "I", false)
def tyX2 : Nat → FieldType := fun k => match k with
  | 0 => .object "Creasebook$Paper"
  | 1 => .object "Creasebook$Form"
  | 2 => .object "Creasebook$Form"
  | 3 => .array (.object "Creasebook$Form")
  | 4 => .array .int
  | 5 => .int
  | 6 => .int
  | _ => .int
abbrev wsX20 : List Cond := u_ws RX2 TX2 8
theorem nmX2 : ∀ a, a < 8 → ∀ b, b < 8 → a ≠ b → (TX2 a).2.1 ≠ (TX2 b).2.1 := by decide +kernel
theorem tyX2_ok : ∀ k, k < 8 → parseFieldDescriptor (TX2 k).2.2.1 = some (tyX2 k) := by decide +kernel
abbrev cX2_init : ByteArray := prog_1_method_1_code
def yX2_init : MethodName := ⟨RX2, "<init>", "()V"⟩
abbrev cX2_sheet : ByteArray := prog_1_method_2_code
def yX2_sheet : MethodName := ⟨RX2, "sheet", "(II)I"⟩
abbrev cX2_fold : ByteArray := prog_1_method_3_code
def yX2_fold : MethodName := ⟨RX2, "fold", "(IIZZ)I"⟩
abbrev cX2_unfold : ByteArray := prog_1_method_4_code
def yX2_unfold : MethodName := ⟨RX2, "unfold", "()I"⟩
abbrev cX2_turn : ByteArray := prog_1_method_5_code
def yX2_turn : MethodName := ⟨RX2, "turn", "()I"⟩
abbrev cX2_round : ByteArray := prog_1_method_6_code
def yX2_round : MethodName := ⟨RX2, "round", "()I"⟩
abbrev cX2_ink : ByteArray := prog_1_method_7_code
def yX2_ink : MethodName := ⟨RX2, "ink", "(II)Z"⟩
abbrev cX2_dry : ByteArray := prog_1_method_8_code
def yX2_dry : MethodName := ⟨RX2, "dry", "()I"⟩
abbrev cX2_punch : ByteArray := prog_1_method_9_code
def yX2_punch : MethodName := ⟨RX2, "punch", "(II)I"⟩
abbrev cX2_glue : ByteArray := prog_1_method_10_code
def yX2_glue : MethodName := ⟨RX2, "glue", "(II)I"⟩
abbrev cX2_ofPlace : ByteArray := prog_1_method_11_code
def yX2_ofPlace : MethodName := ⟨RX2, "ofPlace", "(III)I"⟩
abbrev cX2_at : ByteArray := prog_1_method_12_code
def yX2_at : MethodName := ⟨RX2, "at", "(III)I"⟩
abbrev cX2_ofCell : ByteArray := prog_1_method_13_code
def yX2_ofCell : MethodName := ⟨RX2, "ofCell", "(II)I"⟩
abbrev cX2_ofPair : ByteArray := prog_1_method_14_code
def yX2_ofPair : MethodName := ⟨RX2, "ofPair", "(IZI)I"⟩
abbrev cX2_many : ByteArray := prog_1_method_16_code
def yX2_many : MethodName := ⟨RX2, "many", "(I)I"⟩
abbrev cX2_weight : ByteArray := prog_1_method_17_code
def yX2_weight : MethodName := ⟨RX2, "weight", "(I)D"⟩
abbrev cX2_bestFold : ByteArray := prog_1_method_19_code
def yX2_bestFold : MethodName := ⟨RX2, "bestFold", "()I"⟩
abbrev cX2_bring : ByteArray := prog_1_method_20_code
def yX2_bring : MethodName := ⟨RX2, "bring", "(II)I"⟩
abbrev cX2_fewest : ByteArray := prog_1_method_21_code
def yX2_fewest : MethodName := ⟨RX2, "fewest", "()I"⟩
abbrev cX2_digest : ByteArray := prog_1_method_22_code
def yX2_digest : MethodName := ⟨RX2, "digest", "()J"⟩
abbrev cX2_begin : ByteArray := prog_1_method_23_code
def yX2_begin : MethodName := ⟨RX2, "begin", "(II)V"⟩
abbrev cX2_requireLine : ByteArray := prog_1_method_24_code
def yX2_requireLine : MethodName := ⟨RX2, "requireLine", "(II)V"⟩
abbrev cX2_requirePlace : ByteArray := prog_1_method_25_code
def yX2_requirePlace : MethodName := ⟨RX2, "requirePlace", "(II)V"⟩
abbrev cX2_requireCell : ByteArray := prog_1_method_26_code
def yX2_requireCell : MethodName := ⟨RX2, "requireCell", "(I)V"⟩
abbrev cX2_requireWhat : ByteArray := prog_1_method_27_code
def yX2_requireWhat : MethodName := ⟨RX2, "requireWhat", "(II)V"⟩
abbrev cX2_creaseAlong : ByteArray := prog_1_method_28_code
def yX2_creaseAlong : MethodName := ⟨RX2, "creaseAlong", "(I)I"⟩
abbrev cX2_creasePair : ByteArray := prog_1_method_29_code
def yX2_creasePair : MethodName := ⟨RX2, "creasePair", "(IZI)Z"⟩
abbrev cX2_spreadInk : ByteArray := prog_1_method_30_code
def yX2_spreadInk : MethodName := ⟨RX2, "spreadInk", "(I)I"⟩
abbrev cX2_cellThatMeets : ByteArray := prog_1_method_32_code
def yX2_cellThatMeets : MethodName := ⟨RX2, "cellThatMeets", "(II)I"⟩
abbrev cX2_isBlot : ByteArray := prog_1_method_33_code
def yX2_isBlot : MethodName := ⟨RX2, "isBlot", "(III)Z"⟩
abbrev cX2_outerSide : ByteArray := prog_1_method_34_code
def yX2_outerSide : MethodName := ⟨RX2, "outerSide", "(IZ)I"⟩
abbrev cX2_isHeldByGlue : ByteArray := prog_1_method_35_code
def yX2_isHeldByGlue : MethodName := ⟨RX2, "isHeldByGlue", "()Z"⟩
abbrev cX2_holesAt : ByteArray := prog_1_method_36_code
def yX2_holesAt : MethodName := ⟨RX2, "holesAt", "(II)I"⟩
abbrev cX2_gluedAt : ByteArray := prog_1_method_37_code
def yX2_gluedAt : MethodName := ⟨RX2, "gluedAt", "(II)I"⟩
abbrev cX2_digestOfCell : ByteArray := prog_1_method_38_code
def yX2_digestOfCell : MethodName := ⟨RX2, "digestOfCell", "(JI)J"⟩
abbrev cX2_digestOfPlace : ByteArray := prog_1_method_39_code
def yX2_digestOfPlace : MethodName := ⟨RX2, "digestOfPlace", "(JII)J"⟩
abbrev cX2_nearestOfTwoTheEven : ByteArray := prog_1_method_40_code
def yX2_nearestOfTwoTheEven : MethodName := ⟨RX2, "nearestOfTwoTheEven", "(II)I"⟩
abbrev cX2_halvings : ByteArray := prog_1_method_41_code
def yX2_halvings : MethodName := ⟨RX2, "halvings", "(I)I"⟩
abbrev cX2_numberOf : ByteArray := prog_1_method_42_code
def yX2_numberOf : MethodName := ⟨RX2, "numberOf", "(Z)I"⟩
abbrev cX2_codeOf : ByteArray := prog_1_method_43_code
def yX2_codeOf : MethodName := ⟨RX2, "codeOf", "(IIZZ)I"⟩
abbrev cX2_lineOf : ByteArray := prog_1_method_44_code
def yX2_lineOf : MethodName := ⟨RX2, "lineOf", "(I)I"⟩
abbrev cX2_axisOf : ByteArray := prog_1_method_45_code
def yX2_axisOf : MethodName := ⟨RX2, "axisOf", "(I)I"⟩
abbrev cX2_isFar : ByteArray := prog_1_method_46_code
def yX2_isFar : MethodName := ⟨RX2, "isFar", "(I)Z"⟩
abbrev cX2_isOver : ByteArray := prog_1_method_47_code
def yX2_isOver : MethodName := ⟨RX2, "isOver", "(I)Z"⟩
abbrev cX2_pairOf : ByteArray := prog_1_method_48_code
def yX2_pairOf : MethodName := ⟨RX2, "pairOf", "(IZ)I"⟩
abbrev cX2_sideOf : ByteArray := prog_1_method_49_code
def yX2_sideOf : MethodName := ⟨RX2, "sideOf", "(IZ)I"⟩
def RX3 : String := "CreasebookModel$Form"
def TX3 : u_T := fun k => match k with
  | _ => ("", "", "", false)
def tyX3 : Nat → FieldType := fun k => match k with
  | _ => .int
abbrev wsX30 : List Cond := u_ws RX3 TX3 0
theorem nmX3 : ∀ a, a < 0 → ∀ b, b < 0 → a ≠ b → (TX3 a).2.1 ≠ (TX3 b).2.1 := by decide +kernel
theorem tyX3_ok : ∀ k, k < 0 → parseFieldDescriptor (TX3 k).2.2.1 = some (tyX3 k) := by decide +kernel
def RX4 : String := "CreasebookModel"
def TX4 : u_T := fun k => match k with
  | _ => ("", "", "", false)
def tyX4 : Nat → FieldType := fun k => match k with
  | _ => .int
abbrev wsX40 : List Cond := u_ws RX4 TX4 0
theorem nmX4 : ∀ a, a < 0 → ∀ b, b < 0 → a ≠ b → (TX4 a).2.1 ≠ (TX4 b).2.1 := by decide +kernel
theorem tyX4_ok : ∀ k, k < 0 → parseFieldDescriptor (TX4 k).2.2.1 = some (tyX4 k) := by decide +kernel
def RJx145de : String := "java/io/Serializable"
def TJx145de : u_T := fun k => match k with
  | _ => ("", "", "", false)
def tyJx145de : Nat → FieldType := fun k => match k with
  | _ => .int
abbrev wsJx145de0 : List Cond := u_ws RJx145de TJx145de 0
theorem nmJx145de : ∀ a, a < 0 → ∀ b, b < 0 → a ≠ b → (TJx145de a).2.1 ≠ (TJx145de b).2.1 := by decide +kernel
theorem tyJx145de_ok : ∀ k, k < 0 → parseFieldDescriptor (TJx145de k).2.2.1 = some (tyJx145de k) := by decide +kernel
def RJxb160c : String := "java/lang/Comparable"
def TJxb160c : u_T := fun k => match k with
  | _ => ("", "", "", false)
def tyJxb160c : Nat → FieldType := fun k => match k with
  | _ => .int
abbrev wsJxb160c0 : List Cond := u_ws RJxb160c TJxb160c 0
theorem nmJxb160c : ∀ a, a < 0 → ∀ b, b < 0 → a ≠ b → (TJxb160c a).2.1 ≠ (TJxb160c b).2.1 := by decide +kernel
theorem tyJxb160c_ok : ∀ k, k < 0 → parseFieldDescriptor (TJxb160c k).2.2.1 = some (tyJxb160c k) := by decide +kernel
def RJxe99ae : String := "java/lang/Double"
def TJxe99ae : u_T := fun k => match k with
  | _ => ("", "", "", false)
def tyJxe99ae : Nat → FieldType := fun k => match k with
  | _ => .int
abbrev wsJxe99ae0 : List Cond := u_ws RJxe99ae TJxe99ae 0
theorem nmJxe99ae : ∀ a, a < 0 → ∀ b, b < 0 → a ≠ b → (TJxe99ae a).2.1 ≠ (TJxe99ae b).2.1 := by decide +kernel
theorem tyJxe99ae_ok : ∀ k, k < 0 → parseFieldDescriptor (TJxe99ae k).2.2.1 = some (tyJxe99ae k) := by decide +kernel
def RJ9 : String := "java/lang/Math"
def TJ9 : u_T := fun k => match k with
  | _ => ("", "", "", false)
def tyJ9 : Nat → FieldType := fun k => match k with
  | _ => .int
abbrev wsJ90 : List Cond := u_ws RJ9 TJ9 0
theorem nmJ9 : ∀ a, a < 0 → ∀ b, b < 0 → a ≠ b → (TJ9 a).2.1 ≠ (TJ9 b).2.1 := by decide +kernel
theorem tyJ9_ok : ∀ k, k < 0 → parseFieldDescriptor (TJ9 k).2.2.1 = some (tyJ9 k) := by decide +kernel
abbrev cJ9_abs_0f7a4 : ByteArray := prog_12_method_59_code
def yJ9_abs_0f7a4 : MethodName := ⟨RJ9, "abs", "(I)I"⟩
abbrev cJ9_abs_294c1 : ByteArray := prog_12_method_64_code
def yJ9_abs_294c1 : MethodName := ⟨RJ9, "abs", "(D)D"⟩
abbrev cJ9_max_7cf53 : ByteArray := prog_12_method_65_code
def yJ9_max_7cf53 : MethodName := ⟨RJ9, "max", "(II)I"⟩
abbrev cJ9_min_7cf53 : ByteArray := prog_12_method_69_code
def yJ9_min_7cf53 : MethodName := ⟨RJ9, "min", "(II)I"⟩
def RJxd2413 : String := "java/lang/Number"
def TJxd2413 : u_T := fun k => match k with
  | _ => ("", "", "", false)
def tyJxd2413 : Nat → FieldType := fun k => match k with
  | _ => .int
abbrev wsJxd24130 : List Cond := u_ws RJxd2413 TJxd2413 0
theorem nmJxd2413 : ∀ a, a < 0 → ∀ b, b < 0 → a ≠ b → (TJxd2413 a).2.1 ≠ (TJxd2413 b).2.1 := by decide +kernel
theorem tyJxd2413_ok : ∀ k, k < 0 → parseFieldDescriptor (TJxd2413 k).2.2.1 = some (tyJxd2413 k) := by decide +kernel
def RJ0 : String := "java/lang/String"
def TJ0 : u_T := fun k => match k with
  | _ => ("", "", "", false)
def tyJ0 : Nat → FieldType := fun k => match k with
  | _ => .int
abbrev wsJ00 : List Cond := u_ws RJ0 TJ0 0
theorem nmJ0 : ∀ a, a < 0 → ∀ b, b < 0 → a ≠ b → (TJ0 a).2.1 ≠ (TJ0 b).2.1 := by decide +kernel
theorem tyJ0_ok : ∀ k, k < 0 → parseFieldDescriptor (TJ0 k).2.2.1 = some (tyJ0 k) := by decide +kernel
def RJxfd54e : String := "java/lang/constant/Constable"
def TJxfd54e : u_T := fun k => match k with
  | _ => ("", "", "", false)
def tyJxfd54e : Nat → FieldType := fun k => match k with
  | _ => .int
abbrev wsJxfd54e0 : List Cond := u_ws RJxfd54e TJxfd54e 0
theorem nmJxfd54e : ∀ a, a < 0 → ∀ b, b < 0 → a ≠ b → (TJxfd54e a).2.1 ≠ (TJxfd54e b).2.1 := by decide +kernel
theorem tyJxfd54e_ok : ∀ k, k < 0 → parseFieldDescriptor (TJxfd54e k).2.2.1 = some (tyJxfd54e k) := by decide +kernel
def RJx3cf43 : String := "java/lang/constant/ConstantDesc"
def TJx3cf43 : u_T := fun k => match k with
  | _ => ("", "", "", false)
def tyJx3cf43 : Nat → FieldType := fun k => match k with
  | _ => .int
abbrev wsJx3cf430 : List Cond := u_ws RJx3cf43 TJx3cf43 0
theorem nmJx3cf43 : ∀ a, a < 0 → ∀ b, b < 0 → a ≠ b → (TJx3cf43 a).2.1 ≠ (TJx3cf43 b).2.1 := by decide +kernel
theorem tyJx3cf43_ok : ∀ k, k < 0 → parseFieldDescriptor (TJx3cf43 k).2.2.1 = some (tyJx3cf43 k) := by decide +kernel
def RL : String := "CreasebookLaw"
abbrev cL_below : ByteArray := method_2_code
def yL_below : MethodName := ⟨RL, "below", "(II)I"⟩
abbrev cL_cell : ByteArray := method_3_code
def yL_cell : MethodName := ⟨RL, "cell", "([II)I"⟩
abbrev cL_law : ByteArray := code
def yL_law : MethodName := ⟨RL, "law", "([I)Z"⟩
abbrev cL_isSo : ByteArray := method_5_code
def yL_isSo : MethodName := ⟨RL, "isSo", "(LCreasebook;II)Z"⟩

