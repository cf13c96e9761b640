/-! ===== BEGIN printed: names, fields, word lists, decode rows ===== -/
def RX0 : String := "Creasebook$Form"
def TX0 : u_T := fun k => match k with
  | 0 => ("Creasebook$Form", "cells", "I", false)
  | 1 => ("Creasebook$Form", "columns", "I", false)
  | 2 => ("Creasebook$Form", "rows", "I", false)
  | 3 => ("Creasebook$Form", "column", "[I", true)
  | 4 => ("Creasebook$Form", "row", "[I", true)
  | 5 => ("Creasebook$Form", "layer", "[I", true)
  | 6 => ("Creasebook$Form", "isUp", "[Z", true)
  | _ => ("Creasebook$Form", "height", "[I", true)
def tyX0 : Nat → FieldType := fun k => match k with
  | 0 => .int
  | 1 => .int
  | 2 => .int
  | 3 => .array .int
  | 4 => .array .int
  | 5 => .array .int
  | 6 => .array .boolean
  | _ => .array .int
abbrev wsX00 : List Cond := u_ws RX0 TX0 8
theorem nmX0 : ∀ a, a < 8 → ∀ b, b < 8 → a ≠ b → (TX0 a).2.1 ≠ (TX0 b).2.1 := by decide +kernel
theorem tyX0_ok : ∀ k, k < 8 → parseFieldDescriptor (TX0 k).2.2.1 = some (tyX0 k) := by decide +kernel
abbrev cX0_init : ByteArray := prog_2_method_1_code
def yX0_init : MethodName := ⟨RX0, "<init>", "()V"⟩
abbrev cX0_spread : ByteArray := prog_2_method_2_code
def yX0_spread : MethodName := ⟨RX0, "spread", "(II)V"⟩
abbrev cX0_copyFrom : ByteArray := prog_2_method_3_code
def yX0_copyFrom : MethodName := ⟨RX0, "copyFrom", "(LCreasebook$Form;)V"⟩
abbrev cX0_becomeFolded : ByteArray := prog_2_method_4_code
def yX0_becomeFolded : MethodName := ⟨RX0, "becomeFolded", "(LCreasebook$Form;I)V"⟩
abbrev cX0_layerBehind : ByteArray := prog_2_method_5_code
def yX0_layerBehind : MethodName := ⟨RX0, "layerBehind", "(II)I"⟩
abbrev cX0_turnOver : ByteArray := prog_2_method_6_code
def yX0_turnOver : MethodName := ⟨RX0, "turnOver", "()V"⟩
abbrev cX0_turnRound : ByteArray := prog_2_method_7_code
def yX0_turnRound : MethodName := ⟨RX0, "turnRound", "()V"⟩
abbrev cX0_measurePiles : ByteArray := prog_2_method_8_code
def yX0_measurePiles : MethodName := ⟨RX0, "measurePiles", "()V"⟩
abbrev cX0_places : ByteArray := prog_2_method_9_code
def yX0_places : MethodName := ⟨RX0, "places", "()I"⟩
abbrev cX0_hasPlace : ByteArray := prog_2_method_10_code
def yX0_hasPlace : MethodName := ⟨RX0, "hasPlace", "(II)Z"⟩
abbrev cX0_hasLine : ByteArray := prog_2_method_11_code
def yX0_hasLine : MethodName := ⟨RX0, "hasLine", "(II)Z"⟩
abbrev cX0_heightAt : ByteArray := prog_2_method_12_code
def yX0_heightAt : MethodName := ⟨RX0, "heightAt", "(II)I"⟩
abbrev cX0_liesAt : ByteArray := prog_2_method_13_code
def yX0_liesAt : MethodName := ⟨RX0, "liesAt", "(III)Z"⟩
abbrev cX0_cellAt : ByteArray := prog_2_method_14_code
def yX0_cellAt : MethodName := ⟨RX0, "cellAt", "(III)I"⟩
abbrev cX0_highestAt : ByteArray := prog_2_method_15_code
def yX0_highestAt : MethodName := ⟨RX0, "highestAt", "(II)I"⟩
abbrev cX0_layerFromAbove : ByteArray := prog_2_method_16_code
def yX0_layerFromAbove : MethodName := ⟨RX0, "layerFromAbove", "(I)I"⟩
abbrev cX0_isOutermost : ByteArray := prog_2_method_17_code
def yX0_isOutermost : MethodName := ⟨RX0, "isOutermost", "(IZ)Z"⟩
abbrev cX0_isFrontUp : ByteArray := prog_2_method_18_code
def yX0_isFrontUp : MethodName := ⟨RX0, "isFrontUp", "(I)Z"⟩
abbrev cX0_isJustUpon : ByteArray := prog_2_method_19_code
def yX0_isJustUpon : MethodName := ⟨RX0, "isJustUpon", "(II)Z"⟩
abbrev cX0_goes : ByteArray := prog_2_method_20_code
def yX0_goes : MethodName := ⟨RX0, "goes", "(II)Z"⟩
abbrev cX0_mirroredColumn : ByteArray := prog_2_method_21_code
def yX0_mirroredColumn : MethodName := ⟨RX0, "mirroredColumn", "(II)I"⟩
abbrev cX0_mirroredRow : ByteArray := prog_2_method_22_code
def yX0_mirroredRow : MethodName := ⟨RX0, "mirroredRow", "(II)I"⟩
abbrev cX0_isLineBetween : ByteArray := prog_2_method_23_code
def yX0_isLineBetween : MethodName := ⟨RX0, "isLineBetween", "(III)Z"⟩
abbrev cX0_highestPile : ByteArray := prog_2_method_24_code
def yX0_highestPile : MethodName := ⟨RX0, "highestPile", "()I"⟩
abbrev cX0_frontsSeenFromAbove : ByteArray := prog_2_method_25_code
def yX0_frontsSeenFromAbove : MethodName := ⟨RX0, "frontsSeenFromAbove", "()I"⟩
abbrev cX0_frontsSeenFromBelow : ByteArray := prog_2_method_26_code
def yX0_frontsSeenFromBelow : MethodName := ⟨RX0, "frontsSeenFromBelow", "()I"⟩
def RX1 : String := "Creasebook$Paper"
def TX1 : u_T := fun k => match k with
  | 0 => ("Creasebook$Paper", "wide", "I", false)
  | 1 => ("Creasebook$Paper", "high", "I", false)
  | 2 => ("Creasebook$Paper", "cells", "I", false)
  | 3 => ("Creasebook$Paper", "crease", "[I", true)
  | 4 => ("Creasebook$Paper", "creasedBy", "[I", true)
  | 5 => ("Creasebook$Paper", "marks", "[I", true)
  | 6 => ("Creasebook$Paper", "ink", "[I", true)
  | 7 => ("Creasebook$Paper", "holes", "[I", true)
  | _ => ("Creasebook$Paper", "glued", "[I", true)
def tyX1 : Nat → FieldType := fun k => match k with
  | 0 => .int
  | 1 => .int
  | 2 => .int
  | 3 => .array .int
  | 4 => .array .int
  | 5 => .array .int
  | 6 => .array .int
  | 7 => .array .int
  | _ => .array .int
abbrev wsX10 : List Cond := u_ws RX1 TX1 9
theorem nmX1 : ∀ a, a < 9 → ∀ b, b < 9 → a ≠ b → (TX1 a).2.1 ≠ (TX1 b).2.1 := by decide +kernel
theorem tyX1_ok : ∀ k, k < 9 → parseFieldDescriptor (TX1 k).2.2.1 = some (tyX1 k) := by decide +kernel
abbrev cX1_init : ByteArray := prog_3_method_1_code
def yX1_init : MethodName := ⟨RX1, "<init>", "()V"⟩
abbrev cX1_renew : ByteArray := prog_3_method_2_code
def yX1_renew : MethodName := ⟨RX1, "renew", "(II)V"⟩
abbrev cX1_hasCell : ByteArray := prog_3_method_3_code
def yX1_hasCell : MethodName := ⟨RX1, "hasCell", "(I)Z"⟩
abbrev cX1_cellBeside : ByteArray := prog_3_method_4_code
def yX1_cellBeside : MethodName := ⟨RX1, "cellBeside", "(IZ)I"⟩
abbrev cX1_press : ByteArray := prog_3_method_5_code
def yX1_press : MethodName := ⟨RX1, "press", "(III)V"⟩
abbrev cX1_smoothCreasesOf : ByteArray := prog_3_method_6_code
def yX1_smoothCreasesOf : MethodName := ⟨RX1, "smoothCreasesOf", "(I)V"⟩
abbrev cX1_creasesOf : ByteArray := prog_3_method_7_code
def yX1_creasesOf : MethodName := ⟨RX1, "creasesOf", "(I)I"⟩
abbrev cX1_tellPair : ByteArray := prog_3_method_8_code
def yX1_tellPair : MethodName := ⟨RX1, "tellPair", "(II)I"⟩
abbrev cX1_countCreases : ByteArray := prog_3_method_9_code
def yX1_countCreases : MethodName := ⟨RX1, "countCreases", "(I)I"⟩
abbrev cX1_sumOfMarks : ByteArray := prog_3_method_10_code
def yX1_sumOfMarks : MethodName := ⟨RX1, "sumOfMarks", "()I"⟩
abbrev cX1_isWet : ByteArray := prog_3_method_11_code
def yX1_isWet : MethodName := ⟨RX1, "isWet", "(I)Z"⟩
abbrev cX1_wet : ByteArray := prog_3_method_12_code
def yX1_wet : MethodName := ⟨RX1, "wet", "(I)Z"⟩
abbrev cX1_dryAll : ByteArray := prog_3_method_13_code
def yX1_dryAll : MethodName := ⟨RX1, "dryAll", "()I"⟩
abbrev cX1_countSides : ByteArray := prog_3_method_14_code
def yX1_countSides : MethodName := ⟨RX1, "countSides", "(I)I"⟩
abbrev cX1_sumOfHoles : ByteArray := prog_3_method_15_code
def yX1_sumOfHoles : MethodName := ⟨RX1, "sumOfHoles", "()I"⟩
abbrev cX1_areGlued : ByteArray := prog_3_method_16_code
def yX1_areGlued : MethodName := ⟨RX1, "areGlued", "(II)Z"⟩
abbrev cX1_stick : ByteArray := prog_3_method_17_code
def yX1_stick : MethodName := ⟨RX1, "stick", "(II)V"⟩
def RX2 : String := "Creasebook"
def TX2 : u_T := fun k => match k with
  | 0 => ("Creasebook", "paper", "LCreasebook$Paper;", true)
  | 1 => ("Creasebook", "form", "LCreasebook$Form;", true)
  | 2 => ("Creasebook", "trial", "LCreasebook$Form;", true)
  | 3 => ("Creasebook", "past", "[LCreasebook$Form;", true)
  | 4 => ("Creasebook", "pastCode", "[I", true)
  | 5 => ("Creasebook", "folds", "I", false)
  | 6 => ("Creasebook", "blots", "I", false)
  | _ => ("Creasebook", "refusals", "I", false)
def tyX2 : Nat → FieldType := fun k => match k with
  | 0 => .object "Creasebook$Paper"
  | 1 => .object "Creasebook$Form"
  | 2 => .object "Creasebook$Form"
  | 3 => .array (.object "Creasebook$Form")
  | 4 => .array .int
  | 5 => .int
  | 6 => .int
  | _ => .int
abbrev wsX20 : List Cond := u_ws RX2 TX2 8
theorem nmX2 : ∀ a, a < 8 → ∀ b, b < 8 → a ≠ b → (TX2 a).2.1 ≠ (TX2 b).2.1 := by decide +kernel
theorem tyX2_ok : ∀ k, k < 8 → parseFieldDescriptor (TX2 k).2.2.1 = some (tyX2 k) := by decide +kernel
abbrev cX2_init : ByteArray := prog_1_method_1_code
def yX2_init : MethodName := ⟨RX2, "<init>", "()V"⟩
abbrev cX2_sheet : ByteArray := prog_1_method_2_code
def yX2_sheet : MethodName := ⟨RX2, "sheet", "(II)I"⟩
abbrev cX2_fold : ByteArray := prog_1_method_3_code
def yX2_fold : MethodName := ⟨RX2, "fold", "(IIZZ)I"⟩
abbrev cX2_unfold : ByteArray := prog_1_method_4_code
def yX2_unfold : MethodName := ⟨RX2, "unfold", "()I"⟩
abbrev cX2_turn : ByteArray := prog_1_method_5_code
def yX2_turn : MethodName := ⟨RX2, "turn", "()I"⟩
abbrev cX2_round : ByteArray := prog_1_method_6_code
def yX2_round : MethodName := ⟨RX2, "round", "()I"⟩
abbrev cX2_ink : ByteArray := prog_1_method_7_code
def yX2_ink : MethodName := ⟨RX2, "ink", "(II)Z"⟩
abbrev cX2_dry : ByteArray := prog_1_method_8_code
def yX2_dry : MethodName := ⟨RX2, "dry", "()I"⟩
abbrev cX2_punch : ByteArray := prog_1_method_9_code
def yX2_punch : MethodName := ⟨RX2, "punch", "(II)I"⟩
abbrev cX2_glue : ByteArray := prog_1_method_10_code
def yX2_glue : MethodName := ⟨RX2, "glue", "(II)I"⟩
abbrev cX2_ofPlace : ByteArray := prog_1_method_11_code
def yX2_ofPlace : MethodName := ⟨RX2, "ofPlace", "(III)I"⟩
abbrev cX2_at : ByteArray := prog_1_method_12_code
def yX2_at : MethodName := ⟨RX2, "at", "(III)I"⟩
abbrev cX2_ofCell : ByteArray := prog_1_method_13_code
def yX2_ofCell : MethodName := ⟨RX2, "ofCell", "(II)I"⟩
abbrev cX2_ofPair : ByteArray := prog_1_method_14_code
def yX2_ofPair : MethodName := ⟨RX2, "ofPair", "(IZI)I"⟩
abbrev cX2_ofCorner : ByteArray := prog_1_method_15_code
def yX2_ofCorner : MethodName := ⟨RX2, "ofCorner", "(III)I"⟩
abbrev cX2_many : ByteArray := prog_1_method_16_code
def yX2_many : MethodName := ⟨RX2, "many", "(I)I"⟩
abbrev cX2_weight : ByteArray := prog_1_method_17_code
def yX2_weight : MethodName := ⟨RX2, "weight", "(I)D"⟩
abbrev cX2_would : ByteArray := prog_1_method_18_code
def yX2_would : MethodName := ⟨RX2, "would", "(IIZZI)I"⟩
abbrev cX2_bestFold : ByteArray := prog_1_method_19_code
def yX2_bestFold : MethodName := ⟨RX2, "bestFold", "()I"⟩
abbrev cX2_bring : ByteArray := prog_1_method_20_code
def yX2_bring : MethodName := ⟨RX2, "bring", "(II)I"⟩
abbrev cX2_fewest : ByteArray := prog_1_method_21_code
def yX2_fewest : MethodName := ⟨RX2, "fewest", "()I"⟩
abbrev cX2_digest : ByteArray := prog_1_method_22_code
def yX2_digest : MethodName := ⟨RX2, "digest", "()J"⟩
abbrev cX2_begin : ByteArray := prog_1_method_23_code
def yX2_begin : MethodName := ⟨RX2, "begin", "(II)V"⟩
abbrev cX2_requireLine : ByteArray := prog_1_method_24_code
def yX2_requireLine : MethodName := ⟨RX2, "requireLine", "(II)V"⟩
abbrev cX2_requirePlace : ByteArray := prog_1_method_25_code
def yX2_requirePlace : MethodName := ⟨RX2, "requirePlace", "(II)V"⟩
abbrev cX2_requireCell : ByteArray := prog_1_method_26_code
def yX2_requireCell : MethodName := ⟨RX2, "requireCell", "(I)V"⟩
abbrev cX2_requireWhat : ByteArray := prog_1_method_27_code
def yX2_requireWhat : MethodName := ⟨RX2, "requireWhat", "(II)V"⟩
abbrev cX2_creaseAlong : ByteArray := prog_1_method_28_code
def yX2_creaseAlong : MethodName := ⟨RX2, "creaseAlong", "(I)I"⟩
abbrev cX2_creasePair : ByteArray := prog_1_method_29_code
def yX2_creasePair : MethodName := ⟨RX2, "creasePair", "(IZI)Z"⟩
abbrev cX2_spreadInk : ByteArray := prog_1_method_30_code
def yX2_spreadInk : MethodName := ⟨RX2, "spreadInk", "(I)I"⟩
abbrev cX2_countBlots : ByteArray := prog_1_method_31_code
def yX2_countBlots : MethodName := ⟨RX2, "countBlots", "(I)I"⟩
abbrev cX2_cellThatMeets : ByteArray := prog_1_method_32_code
def yX2_cellThatMeets : MethodName := ⟨RX2, "cellThatMeets", "(II)I"⟩
abbrev cX2_isBlot : ByteArray := prog_1_method_33_code
def yX2_isBlot : MethodName := ⟨RX2, "isBlot", "(III)Z"⟩
abbrev cX2_outerSide : ByteArray := prog_1_method_34_code
def yX2_outerSide : MethodName := ⟨RX2, "outerSide", "(IZ)I"⟩
abbrev cX2_isHeldByGlue : ByteArray := prog_1_method_35_code
def yX2_isHeldByGlue : MethodName := ⟨RX2, "isHeldByGlue", "()Z"⟩
abbrev cX2_holesAt : ByteArray := prog_1_method_36_code
def yX2_holesAt : MethodName := ⟨RX2, "holesAt", "(II)I"⟩
abbrev cX2_gluedAt : ByteArray := prog_1_method_37_code
def yX2_gluedAt : MethodName := ⟨RX2, "gluedAt", "(II)I"⟩
abbrev cX2_digestOfCell : ByteArray := prog_1_method_38_code
def yX2_digestOfCell : MethodName := ⟨RX2, "digestOfCell", "(JI)J"⟩
abbrev cX2_digestOfPlace : ByteArray := prog_1_method_39_code
def yX2_digestOfPlace : MethodName := ⟨RX2, "digestOfPlace", "(JII)J"⟩
abbrev cX2_nearestOfTwoTheEven : ByteArray := prog_1_method_40_code
def yX2_nearestOfTwoTheEven : MethodName := ⟨RX2, "nearestOfTwoTheEven", "(II)I"⟩
abbrev cX2_halvings : ByteArray := prog_1_method_41_code
def yX2_halvings : MethodName := ⟨RX2, "halvings", "(I)I"⟩
abbrev cX2_numberOf : ByteArray := prog_1_method_42_code
def yX2_numberOf : MethodName := ⟨RX2, "numberOf", "(Z)I"⟩
abbrev cX2_codeOf : ByteArray := prog_1_method_43_code
def yX2_codeOf : MethodName := ⟨RX2, "codeOf", "(IIZZ)I"⟩
abbrev cX2_lineOf : ByteArray := prog_1_method_44_code
def yX2_lineOf : MethodName := ⟨RX2, "lineOf", "(I)I"⟩
abbrev cX2_axisOf : ByteArray := prog_1_method_45_code
def yX2_axisOf : MethodName := ⟨RX2, "axisOf", "(I)I"⟩
abbrev cX2_isFar : ByteArray := prog_1_method_46_code
def yX2_isFar : MethodName := ⟨RX2, "isFar", "(I)Z"⟩
abbrev cX2_isOver : ByteArray := prog_1_method_47_code
def yX2_isOver : MethodName := ⟨RX2, "isOver", "(I)Z"⟩
abbrev cX2_pairOf : ByteArray := prog_1_method_48_code
def yX2_pairOf : MethodName := ⟨RX2, "pairOf", "(IZ)I"⟩
abbrev cX2_sideOf : ByteArray := prog_1_method_49_code
def yX2_sideOf : MethodName := ⟨RX2, "sideOf", "(IZ)I"⟩
def RX3 : String := "CreasebookModel$Form"
def TX3 : u_T := fun k => match k with
  | 0 => ("CreasebookModel$Form", "columns", "I", false)
  | 1 => ("CreasebookModel$Form", "rows", "I", false)
  | 2 => ("CreasebookModel$Form", "x", "[I", true)
  | 3 => ("CreasebookModel$Form", "y", "[I", true)
  | 4 => ("CreasebookModel$Form", "layer", "[I", true)
  | 5 => ("CreasebookModel$Form", "isUp", "[Z", true)
  | _ => ("CreasebookModel$Form", "creases", "[I", true)
def tyX3 : Nat → FieldType := fun k => match k with
  | 0 => .int
  | 1 => .int
  | 2 => .array .int
  | 3 => .array .int
  | 4 => .array .int
  | 5 => .array .boolean
  | _ => .array .int
abbrev wsX30 : List Cond := u_ws RX3 TX3 7
theorem nmX3 : ∀ a, a < 7 → ∀ b, b < 7 → a ≠ b → (TX3 a).2.1 ≠ (TX3 b).2.1 := by decide +kernel
theorem tyX3_ok : ∀ k, k < 7 → parseFieldDescriptor (TX3 k).2.2.1 = some (tyX3 k) := by decide +kernel
abbrev cX3_init : ByteArray := prog_6_method_1_code
def yX3_init : MethodName := ⟨RX3, "<init>", "(I)V"⟩
abbrev cX3_init_ : ByteArray := prog_6_method_2_code
def yX3_init_ : MethodName := ⟨RX3, "<init>", "(II)V"⟩
abbrev cX3_copy : ByteArray := prog_6_method_3_code
def yX3_copy : MethodName := ⟨RX3, "copy", "()LCreasebookModel$Form;"⟩
abbrev cX3_height : ByteArray := prog_6_method_4_code
def yX3_height : MethodName := ⟨RX3, "height", "(II)I"⟩
abbrev cX3_at : ByteArray := prog_6_method_5_code
def yX3_at : MethodName := ⟨RX3, "at", "(III)I"⟩
abbrev cX3_top : ByteArray := prog_6_method_6_code
def yX3_top : MethodName := ⟨RX3, "top", "(II)I"⟩
abbrev cX3_sideAt : ByteArray := prog_6_method_7_code
def yX3_sideAt : MethodName := ⟨RX3, "sideAt", "(IZ)I"⟩
abbrev cX3_goes : ByteArray := prog_6_method_8_code
def yX3_goes : MethodName := ⟨RX3, "goes", "(IIIZ)Z"⟩
abbrev cX3_folded : ByteArray := prog_6_method_9_code
def yX3_folded : MethodName := ⟨RX3, "folded", "(IIZZ)LCreasebookModel$Form;"⟩
abbrev cX3_turn : ByteArray := prog_6_method_10_code
def yX3_turn : MethodName := ⟨RX3, "turn", "(Z)V"⟩
abbrev cX3_seen : ByteArray := prog_6_method_11_code
def yX3_seen : MethodName := ⟨RX3, "seen", "(Z)I"⟩
abbrev cX3_highest : ByteArray := prog_6_method_12_code
def yX3_highest : MethodName := ⟨RX3, "highest", "()I"⟩
abbrev cX3_area : ByteArray := prog_6_method_13_code
def yX3_area : MethodName := ⟨RX3, "area", "()I"⟩
abbrev cX3_lines : ByteArray := prog_6_method_14_code
def yX3_lines : MethodName := ⟨RX3, "lines", "(I)I"⟩
def RX4 : String := "CreasebookModel"
def TX4 : u_T := fun k => match k with
  | 0 => ("CreasebookModel", "thrown", "I", false)
  | 1 => ("CreasebookModel", "wide", "I", false)
  | 2 => ("CreasebookModel", "high", "I", false)
  | 3 => ("CreasebookModel", "form", "LCreasebookModel$Form;", false)
  | 4 => ("CreasebookModel", "past", "Ljava/util/ArrayList;", true)
  | 5 => ("CreasebookModel", "went", "Ljava/util/ArrayList;", true)
  | 6 => ("CreasebookModel", "marks", "[I", false)
  | 7 => ("CreasebookModel", "ink", "[I", false)
  | 8 => ("CreasebookModel", "holes", "[I", false)
  | 9 => ("CreasebookModel", "glued", "[I", false)
  | 10 => ("CreasebookModel", "blots", "I", false)
  | 11 => ("CreasebookModel", "nones", "I", false)
  | _ => ("CreasebookModel", "sum", "J", false)
def tyX4 : Nat → FieldType := fun k => match k with
  | 0 => .int
  | 1 => .int
  | 2 => .int
  | 3 => .object "CreasebookModel$Form"
  | 4 => .object "java/util/ArrayList"
  | 5 => .object "java/util/ArrayList"
  | 6 => .array .int
  | 7 => .array .int
  | 8 => .array .int
  | 9 => .array .int
  | 10 => .int
  | 11 => .int
  | _ => .long
abbrev wsX40 : List Cond := u_ws RX4 TX4 13
theorem nmX4 : ∀ a, a < 13 → ∀ b, b < 13 → a ≠ b → (TX4 a).2.1 ≠ (TX4 b).2.1 := by decide +kernel
theorem tyX4_ok : ∀ k, k < 13 → parseFieldDescriptor (TX4 k).2.2.1 = some (tyX4 k) := by decide +kernel
abbrev cX4_init : ByteArray := prog_5_method_1_code
def yX4_init : MethodName := ⟨RX4, "<init>", "()V"⟩
abbrev cX4_thrown : ByteArray := prog_5_method_2_code
def yX4_thrown : MethodName := ⟨RX4, "thrown", "()I"⟩
abbrev cX4_refuse : ByteArray := prog_5_method_3_code
def yX4_refuse : MethodName := ⟨RX4, "refuse", "(I)I"⟩
abbrev cX4_is : ByteArray := prog_5_method_4_code
def yX4_is : MethodName := ⟨RX4, "is", "(III)Z"⟩
abbrev cX4_cells : ByteArray := prog_5_method_5_code
def yX4_cells : MethodName := ⟨RX4, "cells", "()I"⟩
abbrev cX4_isPlace : ByteArray := prog_5_method_6_code
def yX4_isPlace : MethodName := ⟨RX4, "isPlace", "(II)Z"⟩
abbrev cX4_isCell : ByteArray := prog_5_method_7_code
def yX4_isCell : MethodName := ⟨RX4, "isCell", "(I)Z"⟩
abbrev cX4_isLine : ByteArray := prog_5_method_8_code
def yX4_isLine : MethodName := ⟨RX4, "isLine", "(II)Z"⟩
abbrev cX4_beside : ByteArray := prog_5_method_9_code
def yX4_beside : MethodName := ⟨RX4, "beside", "(IZ)I"⟩
abbrev cX4_sheet : ByteArray := prog_5_method_10_code
def yX4_sheet : MethodName := ⟨RX4, "sheet", "(II)I"⟩
abbrev cX4_blot : ByteArray := prog_5_method_11_code
def yX4_blot : MethodName := ⟨RX4, "blot", "(IIZZZ)I"⟩
abbrev cX4_fold : ByteArray := prog_5_method_12_code
def yX4_fold : MethodName := ⟨RX4, "fold", "(IIZZ)I"⟩
abbrev cX4_isAcross : ByteArray := prog_5_method_13_code
def yX4_isAcross : MethodName := ⟨RX4, "isAcross", "(IIII)Z"⟩
abbrev cX4_unfold : ByteArray := prog_5_method_14_code
def yX4_unfold : MethodName := ⟨RX4, "unfold", "()I"⟩
abbrev cX4_turn : ByteArray := prog_5_method_15_code
def yX4_turn : MethodName := ⟨RX4, "turn", "()I"⟩
abbrev cX4_round : ByteArray := prog_5_method_16_code
def yX4_round : MethodName := ⟨RX4, "round", "()I"⟩
abbrev cX4_ink : ByteArray := prog_5_method_17_code
def yX4_ink : MethodName := ⟨RX4, "ink", "(II)Z"⟩
abbrev cX4_inked : ByteArray := prog_5_method_18_code
def yX4_inked : MethodName := ⟨RX4, "inked", "(I)I"⟩
abbrev cX4_dry : ByteArray := prog_5_method_19_code
def yX4_dry : MethodName := ⟨RX4, "dry", "()I"⟩
abbrev cX4_punch : ByteArray := prog_5_method_20_code
def yX4_punch : MethodName := ⟨RX4, "punch", "(II)I"⟩
abbrev cX4_gluedAt : ByteArray := prog_5_method_21_code
def yX4_gluedAt : MethodName := ⟨RX4, "gluedAt", "(II)I"⟩
abbrev cX4_glue : ByteArray := prog_5_method_22_code
def yX4_glue : MethodName := ⟨RX4, "glue", "(II)I"⟩
abbrev cX4_holesAt : ByteArray := prog_5_method_23_code
def yX4_holesAt : MethodName := ⟨RX4, "holesAt", "(II)I"⟩
abbrev cX4_ofPlaceNow : ByteArray := prog_5_method_24_code
def yX4_ofPlaceNow : MethodName := ⟨RX4, "ofPlaceNow", "(III)I"⟩
abbrev cX4_ofPlace : ByteArray := prog_5_method_25_code
def yX4_ofPlace : MethodName := ⟨RX4, "ofPlace", "(III)I"⟩
abbrev cX4_at : ByteArray := prog_5_method_26_code
def yX4_at : MethodName := ⟨RX4, "at", "(III)I"⟩
abbrev cX4_creased : ByteArray := prog_5_method_27_code
def yX4_creased : MethodName := ⟨RX4, "creased", "(I)I"⟩
abbrev cX4_ofCellNow : ByteArray := prog_5_method_28_code
def yX4_ofCellNow : MethodName := ⟨RX4, "ofCellNow", "(II)I"⟩
abbrev cX4_ofCell : ByteArray := prog_5_method_29_code
def yX4_ofCell : MethodName := ⟨RX4, "ofCell", "(II)I"⟩
abbrev cX4_ofPairNow : ByteArray := prog_5_method_30_code
def yX4_ofPairNow : MethodName := ⟨RX4, "ofPairNow", "(IZI)I"⟩
abbrev cX4_ofPair : ByteArray := prog_5_method_31_code
def yX4_ofPair : MethodName := ⟨RX4, "ofPair", "(IZI)I"⟩
abbrev cX4_ofCorner : ByteArray := prog_5_method_32_code
def yX4_ofCorner : MethodName := ⟨RX4, "ofCorner", "(III)I"⟩
abbrev cX4_creases : ByteArray := prog_5_method_33_code
def yX4_creases : MethodName := ⟨RX4, "creases", "(I)I"⟩
abbrev cX4_sum : ByteArray := prog_5_method_34_code
def yX4_sum : MethodName := ⟨RX4, "sum", "([I)I"⟩
abbrev cX4_manyNow : ByteArray := prog_5_method_35_code
def yX4_manyNow : MethodName := ⟨RX4, "manyNow", "(I)I"⟩
abbrev cX4_many : ByteArray := prog_5_method_36_code
def yX4_many : MethodName := ⟨RX4, "many", "(I)I"⟩
abbrev cX4_weight : ByteArray := prog_5_method_37_code
def yX4_weight : MethodName := ⟨RX4, "weight", "(I)D"⟩
abbrev cX4_would : ByteArray := prog_5_method_38_code
def yX4_would : MethodName := ⟨RX4, "would", "(IIZZI)I"⟩
abbrev cX4_byCode : ByteArray := prog_5_method_39_code
def yX4_byCode : MethodName := ⟨RX4, "byCode", "(I)LCreasebookModel$Form;"⟩
abbrev cX4_isCode : ByteArray := prog_5_method_40_code
def yX4_isCode : MethodName := ⟨RX4, "isCode", "(I)Z"⟩
abbrev cX4_bestNow : ByteArray := prog_5_method_41_code
def yX4_bestNow : MethodName := ⟨RX4, "bestNow", "()I"⟩
abbrev cX4_bestFold : ByteArray := prog_5_method_42_code
def yX4_bestFold : MethodName := ⟨RX4, "bestFold", "()I"⟩
abbrev cX4_isUpon : ByteArray := prog_5_method_43_code
def yX4_isUpon : MethodName := ⟨RX4, "isUpon", "(LCreasebookModel$Form;II)Z"⟩
abbrev cX4_bringNow : ByteArray := prog_5_method_44_code
def yX4_bringNow : MethodName := ⟨RX4, "bringNow", "(II)I"⟩
abbrev cX4_bring : ByteArray := prog_5_method_45_code
def yX4_bring : MethodName := ⟨RX4, "bring", "(II)I"⟩
abbrev cX4_fewestNow : ByteArray := prog_5_method_46_code
def yX4_fewestNow : MethodName := ⟨RX4, "fewestNow", "()I"⟩
abbrev cX4_fewest : ByteArray := prog_5_method_47_code
def yX4_fewest : MethodName := ⟨RX4, "fewest", "()I"⟩
abbrev cX4_add : ByteArray := prog_5_method_48_code
def yX4_add : MethodName := ⟨RX4, "add", "(I)V"⟩
abbrev cX4_digest : ByteArray := prog_5_method_49_code
def yX4_digest : MethodName := ⟨RX4, "digest", "()J"⟩
def RJx145de : String := "java/io/Serializable"
def TJx145de : u_T := fun k => match k with
  | _ => ("", "", "", false)
def tyJx145de : Nat → FieldType := fun k => match k with
  | _ => .int
abbrev wsJx145de0 : List Cond := u_ws RJx145de TJx145de 0
theorem nmJx145de : ∀ a, a < 0 → ∀ b, b < 0 → a ≠ b → (TJx145de a).2.1 ≠ (TJx145de b).2.1 := by decide +kernel
theorem tyJx145de_ok : ∀ k, k < 0 → parseFieldDescriptor (TJx145de k).2.2.1 = some (tyJx145de k) := by decide +kernel
def RJx8e188 : String := "java/lang/Cloneable"
def TJx8e188 : u_T := fun k => match k with
  | _ => ("", "", "", false)
def tyJx8e188 : Nat → FieldType := fun k => match k with
  | _ => .int
abbrev wsJx8e1880 : List Cond := u_ws RJx8e188 TJx8e188 0
theorem nmJx8e188 : ∀ a, a < 0 → ∀ b, b < 0 → a ≠ b → (TJx8e188 a).2.1 ≠ (TJx8e188 b).2.1 := by decide +kernel
theorem tyJx8e188_ok : ∀ k, k < 0 → parseFieldDescriptor (TJx8e188 k).2.2.1 = some (tyJx8e188 k) := by decide +kernel
def RJxab1ab : String := "java/lang/Iterable"
def TJxab1ab : u_T := fun k => match k with
  | _ => ("", "", "", false)
def tyJxab1ab : Nat → FieldType := fun k => match k with
  | _ => .int
abbrev wsJxab1ab0 : List Cond := u_ws RJxab1ab TJxab1ab 0
theorem nmJxab1ab : ∀ a, a < 0 → ∀ b, b < 0 → a ≠ b → (TJxab1ab a).2.1 ≠ (TJxab1ab b).2.1 := by decide +kernel
theorem tyJxab1ab_ok : ∀ k, k < 0 → parseFieldDescriptor (TJxab1ab k).2.2.1 = some (tyJxab1ab k) := by decide +kernel
def RJ9 : String := "java/lang/Math"
def TJ9 : u_T := fun k => match k with
  | _ => ("", "", "", false)
def tyJ9 : Nat → FieldType := fun k => match k with
  | _ => .int
abbrev wsJ90 : List Cond := u_ws RJ9 TJ9 0
theorem nmJ9 : ∀ a, a < 0 → ∀ b, b < 0 → a ≠ b → (TJ9 a).2.1 ≠ (TJ9 b).2.1 := by decide +kernel
theorem tyJ9_ok : ∀ k, k < 0 → parseFieldDescriptor (TJ9 k).2.2.1 = some (tyJ9 k) := by decide +kernel
abbrev cJ9_max_7cf53 : ByteArray := prog_14_method_65_code
def yJ9_max_7cf53 : MethodName := ⟨RJ9, "max", "(II)I"⟩
abbrev cJ9_min_7cf53 : ByteArray := prog_14_method_69_code
def yJ9_min_7cf53 : MethodName := ⟨RJ9, "min", "(II)I"⟩
def RJ0 : String := "java/lang/String"
def TJ0 : u_T := fun k => match k with
  | _ => ("", "", "", false)
def tyJ0 : Nat → FieldType := fun k => match k with
  | _ => .int
abbrev wsJ00 : List Cond := u_ws RJ0 TJ0 0
theorem nmJ0 : ∀ a, a < 0 → ∀ b, b < 0 → a ≠ b → (TJ0 a).2.1 ≠ (TJ0 b).2.1 := by decide +kernel
theorem tyJ0_ok : ∀ k, k < 0 → parseFieldDescriptor (TJ0 k).2.2.1 = some (tyJ0 k) := by decide +kernel
def RJ10 : String := "java/lang/System"
def TJ10 : u_T := fun k => match k with
  | _ => ("", "", "", false)
def tyJ10 : Nat → FieldType := fun k => match k with
  | _ => .int
abbrev wsJ100 : List Cond := u_ws RJ10 TJ10 0
theorem nmJ10 : ∀ a, a < 0 → ∀ b, b < 0 → a ≠ b → (TJ10 a).2.1 ≠ (TJ10 b).2.1 := by decide +kernel
theorem tyJ10_ok : ∀ k, k < 0 → parseFieldDescriptor (TJ10 k).2.2.1 = some (tyJ10 k) := by decide +kernel
def RJxa1e45 : String := "java/util/AbstractCollection"
def TJxa1e45 : u_T := fun k => match k with
  | _ => ("", "", "", false)
def tyJxa1e45 : Nat → FieldType := fun k => match k with
  | _ => .int
abbrev wsJxa1e450 : List Cond := u_ws RJxa1e45 TJxa1e45 0
theorem nmJxa1e45 : ∀ a, a < 0 → ∀ b, b < 0 → a ≠ b → (TJxa1e45 a).2.1 ≠ (TJxa1e45 b).2.1 := by decide +kernel
theorem tyJxa1e45_ok : ∀ k, k < 0 → parseFieldDescriptor (TJxa1e45 k).2.2.1 = some (tyJxa1e45 k) := by decide +kernel
abbrev cJxa1e45_init_da8c8 : ByteArray := prog_19_method_1_code
def yJxa1e45_init_da8c8 : MethodName := ⟨RJxa1e45, "<init>", "()V"⟩
def RJxc12de : String := "java/util/AbstractList"
def TJxc12de : u_T := fun k => match k with
  | _ => ("", "", "", false)
def tyJxc12de : Nat → FieldType := fun k => match k with
  | _ => .int
abbrev wsJxc12de0 : List Cond := u_ws RJxc12de TJxc12de 0
theorem nmJxc12de : ∀ a, a < 0 → ∀ b, b < 0 → a ≠ b → (TJxc12de a).2.1 ≠ (TJxc12de b).2.1 := by decide +kernel
theorem tyJxc12de_ok : ∀ k, k < 0 → parseFieldDescriptor (TJxc12de k).2.2.1 = some (tyJxc12de k) := by decide +kernel
abbrev cJxc12de_init_da8c8 : ByteArray := prog_20_method_1_code
def yJxc12de_init_da8c8 : MethodName := ⟨RJxc12de, "<init>", "()V"⟩
def RJx4a65c : String := "java/util/ArrayList"
def TJx4a65c : u_T := fun k => match k with
  | 0 => ("java/util/AbstractList", "modCount", "I", false)
  | 1 => ("java/util/ArrayList", "elementData", "[Ljava/lang/Object;", false)
  | _ => ("java/util/ArrayList", "size", "I", false)
def tyJx4a65c : Nat → FieldType := fun k => match k with
  | 0 => .int
  | 1 => .array (.object "java/lang/Object")
  | _ => .int
abbrev wsJx4a65c0 : List Cond := u_ws RJx4a65c TJx4a65c 3
theorem nmJx4a65c : ∀ a, a < 3 → ∀ b, b < 3 → a ≠ b → (TJx4a65c a).2.1 ≠ (TJx4a65c b).2.1 := by decide +kernel
theorem tyJx4a65c_ok : ∀ k, k < 3 → parseFieldDescriptor (TJx4a65c k).2.2.1 = some (tyJx4a65c k) := by decide +kernel
abbrev cJx4a65c_init_da8c8 : ByteArray := prog_21_method_2_code
def yJx4a65c_init_da8c8 : MethodName := ⟨RJx4a65c, "<init>", "()V"⟩
abbrev cJx4a65c_grow_92f84 : ByteArray := prog_21_method_6_code
def yJx4a65c_grow_92f84 : MethodName := ⟨RJx4a65c, "grow", "(I)[Ljava/lang/Object;"⟩
abbrev cJx4a65c_grow_d5877 : ByteArray := prog_21_method_7_code
def yJx4a65c_grow_d5877 : MethodName := ⟨RJx4a65c, "grow", "()[Ljava/lang/Object;"⟩
abbrev cJx4a65c_size_8abf5 : ByteArray := prog_21_method_8_code
def yJx4a65c_size_8abf5 : MethodName := ⟨RJx4a65c, "size", "()I"⟩
abbrev cJx4a65c_elementData_915e3 : ByteArray := prog_21_method_18_code
def yJx4a65c_elementData_915e3 : MethodName := ⟨RJx4a65c, "elementData", "(I)Ljava/lang/Object;"⟩
abbrev cJx4a65c_get_915e3 : ByteArray := prog_21_method_20_code
def yJx4a65c_get_915e3 : MethodName := ⟨RJx4a65c, "get", "(I)Ljava/lang/Object;"⟩
abbrev cJx4a65c_add_72be8 : ByteArray := prog_21_method_24_code
def yJx4a65c_add_72be8 : MethodName := ⟨RJx4a65c, "add", "(Ljava/lang/Object;[Ljava/lang/Object;I)V"⟩
abbrev cJx4a65c_add_9ea2d : ByteArray := prog_21_method_25_code
def yJx4a65c_add_9ea2d : MethodName := ⟨RJx4a65c, "add", "(Ljava/lang/Object;)Z"⟩
abbrev cJx4a65c_remove_915e3 : ByteArray := prog_21_method_29_code
def yJx4a65c_remove_915e3 : MethodName := ⟨RJx4a65c, "remove", "(I)Ljava/lang/Object;"⟩
abbrev cJx4a65c_fastRemove_b59b0 : ByteArray := prog_21_method_39_code
def yJx4a65c_fastRemove_b59b0 : MethodName := ⟨RJx4a65c, "fastRemove", "([Ljava/lang/Object;I)V"⟩
abbrev cJx4a65c_clear_da8c8 : ByteArray := prog_21_method_40_code
def yJx4a65c_clear_da8c8 : MethodName := ⟨RJx4a65c, "clear", "()V"⟩
def RJ7 : String := "java/util/Arrays"
def TJ7 : u_T := fun k => match k with
  | _ => ("", "", "", false)
def tyJ7 : Nat → FieldType := fun k => match k with
  | _ => .int
abbrev wsJ70 : List Cond := u_ws RJ7 TJ7 0
theorem nmJ7 : ∀ a, a < 0 → ∀ b, b < 0 → a ≠ b → (TJ7 a).2.1 ≠ (TJ7 b).2.1 := by decide +kernel
theorem tyJ7_ok : ∀ k, k < 0 → parseFieldDescriptor (TJ7 k).2.2.1 = some (tyJ7 k) := by decide +kernel
abbrev cJ7_copyOf_1904c : ByteArray := prog_22_method_119_code
def yJ7_copyOf_1904c : MethodName := ⟨RJ7, "copyOf", "([Ljava/lang/Object;I)[Ljava/lang/Object;"⟩
abbrev cJ7_copyOf_6403c : ByteArray := prog_22_method_120_code
def yJ7_copyOf_6403c : MethodName := ⟨RJ7, "copyOf", "([Ljava/lang/Object;ILjava/lang/Class;)[Ljava/lang/Object;"⟩
def RJx5ef63 : String := "java/util/Collection"
def TJx5ef63 : u_T := fun k => match k with
  | _ => ("", "", "", false)
def tyJx5ef63 : Nat → FieldType := fun k => match k with
  | _ => .int
abbrev wsJx5ef630 : List Cond := u_ws RJx5ef63 TJx5ef63 0
theorem nmJx5ef63 : ∀ a, a < 0 → ∀ b, b < 0 → a ≠ b → (TJx5ef63 a).2.1 ≠ (TJx5ef63 b).2.1 := by decide +kernel
theorem tyJx5ef63_ok : ∀ k, k < 0 → parseFieldDescriptor (TJx5ef63 k).2.2.1 = some (tyJx5ef63 k) := by decide +kernel
def RJxbd725 : String := "java/util/List"
def TJxbd725 : u_T := fun k => match k with
  | _ => ("", "", "", false)
def tyJxbd725 : Nat → FieldType := fun k => match k with
  | _ => .int
abbrev wsJxbd7250 : List Cond := u_ws RJxbd725 TJxbd725 0
theorem nmJxbd725 : ∀ a, a < 0 → ∀ b, b < 0 → a ≠ b → (TJxbd725 a).2.1 ≠ (TJxbd725 b).2.1 := by decide +kernel
theorem tyJxbd725_ok : ∀ k, k < 0 → parseFieldDescriptor (TJxbd725 k).2.2.1 = some (tyJxbd725 k) := by decide +kernel
def RJ15 : String := "java/util/Objects"
def TJ15 : u_T := fun k => match k with
  | _ => ("", "", "", false)
def tyJ15 : Nat → FieldType := fun k => match k with
  | _ => .int
abbrev wsJ150 : List Cond := u_ws RJ15 TJ15 0
theorem nmJ15 : ∀ a, a < 0 → ∀ b, b < 0 → a ≠ b → (TJ15 a).2.1 ≠ (TJ15 b).2.1 := by decide +kernel
theorem tyJ15_ok : ∀ k, k < 0 → parseFieldDescriptor (TJ15 k).2.2.1 = some (tyJ15 k) := by decide +kernel
abbrev cJ15_checkIndex_7cf53 : ByteArray := prog_25_method_17_code
def yJ15_checkIndex_7cf53 : MethodName := ⟨RJ15, "checkIndex", "(II)I"⟩
def RJxf0a74 : String := "java/util/RandomAccess"
def TJxf0a74 : u_T := fun k => match k with
  | _ => ("", "", "", false)
def tyJxf0a74 : Nat → FieldType := fun k => match k with
  | _ => .int
abbrev wsJxf0a740 : List Cond := u_ws RJxf0a74 TJxf0a74 0
theorem nmJxf0a74 : ∀ a, a < 0 → ∀ b, b < 0 → a ≠ b → (TJxf0a74 a).2.1 ≠ (TJxf0a74 b).2.1 := by decide +kernel
theorem tyJxf0a74_ok : ∀ k, k < 0 → parseFieldDescriptor (TJxf0a74 k).2.2.1 = some (tyJxf0a74 k) := by decide +kernel
def RJxa66e6 : String := "java/util/SequencedCollection"
def TJxa66e6 : u_T := fun k => match k with
  | _ => ("", "", "", false)
def tyJxa66e6 : Nat → FieldType := fun k => match k with
  | _ => .int
abbrev wsJxa66e60 : List Cond := u_ws RJxa66e6 TJxa66e6 0
theorem nmJxa66e6 : ∀ a, a < 0 → ∀ b, b < 0 → a ≠ b → (TJxa66e6 a).2.1 ≠ (TJxa66e6 b).2.1 := by decide +kernel
theorem tyJxa66e6_ok : ∀ k, k < 0 → parseFieldDescriptor (TJxa66e6 k).2.2.1 = some (tyJxa66e6 k) := by decide +kernel
def RJ8 : String := "jdk/internal/util/ArraysSupport"
def TJ8 : u_T := fun k => match k with
  | _ => ("", "", "", false)
def tyJ8 : Nat → FieldType := fun k => match k with
  | _ => .int
abbrev wsJ80 : List Cond := u_ws RJ8 TJ8 0
theorem nmJ8 : ∀ a, a < 0 → ∀ b, b < 0 → a ≠ b → (TJ8 a).2.1 ≠ (TJ8 b).2.1 := by decide +kernel
theorem tyJ8_ok : ∀ k, k < 0 → parseFieldDescriptor (TJ8 k).2.2.1 = some (tyJ8 k) := by decide +kernel
abbrev cJ8_newLength_cabcc : ByteArray := prog_28_method_27_code
def yJ8_newLength_cabcc : MethodName := ⟨RJ8, "newLength", "(III)I"⟩
abbrev cJ8_hugeLength_7cf53 : ByteArray := prog_28_method_28_code
def yJ8_hugeLength_7cf53 : MethodName := ⟨RJ8, "hugeLength", "(II)I"⟩
def RJ3 : String := "jdk/internal/util/Preconditions"
def TJ3 : u_T := fun k => match k with
  | _ => ("", "", "", false)
def tyJ3 : Nat → FieldType := fun k => match k with
  | _ => .int
abbrev wsJ30 : List Cond := u_ws RJ3 TJ3 0
theorem nmJ3 : ∀ a, a < 0 → ∀ b, b < 0 → a ≠ b → (TJ3 a).2.1 ≠ (TJ3 b).2.1 := by decide +kernel
theorem tyJ3_ok : ∀ k, k < 0 → parseFieldDescriptor (TJ3 k).2.2.1 = some (tyJ3 k) := by decide +kernel
abbrev cJ3_checkIndex_8e157 : ByteArray := prog_29_method_11_code
def yJ3_checkIndex_8e157 : MethodName := ⟨RJ3, "checkIndex", "(IILjava/util/function/BiFunction;)I"⟩
def RL : String := "CreasebookLaw"
abbrev cL_sheet : ByteArray := method_3_code
def yL_sheet : MethodName := ⟨RL, "sheet", "(LCreasebook;II[J)I"⟩
abbrev cL_fold : ByteArray := method_4_code
def yL_fold : MethodName := ⟨RL, "fold", "(LCreasebook;IIZZ[J)I"⟩
abbrev cL_ink : ByteArray := method_5_code
def yL_ink : MethodName := ⟨RL, "ink", "(LCreasebook;II[J)I"⟩
abbrev cL_punch : ByteArray := method_6_code
def yL_punch : MethodName := ⟨RL, "punch", "(LCreasebook;II[J)I"⟩
abbrev cL_glue : ByteArray := method_7_code
def yL_glue : MethodName := ⟨RL, "glue", "(LCreasebook;II[J)I"⟩
abbrev cL_ofPlace : ByteArray := method_8_code
def yL_ofPlace : MethodName := ⟨RL, "ofPlace", "(LCreasebook;III[J)I"⟩
abbrev cL_at : ByteArray := method_9_code
def yL_at : MethodName := ⟨RL, "at", "(LCreasebook;III[J)I"⟩
abbrev cL_ofCell : ByteArray := method_10_code
def yL_ofCell : MethodName := ⟨RL, "ofCell", "(LCreasebook;II[J)I"⟩
abbrev cL_ofPair : ByteArray := method_11_code
def yL_ofPair : MethodName := ⟨RL, "ofPair", "(LCreasebook;IZI[J)I"⟩
abbrev cL_ofCorner : ByteArray := method_12_code
def yL_ofCorner : MethodName := ⟨RL, "ofCorner", "(LCreasebook;III[J)I"⟩
abbrev cL_many : ByteArray := method_13_code
def yL_many : MethodName := ⟨RL, "many", "(LCreasebook;I[J)I"⟩
abbrev cL_weight : ByteArray := method_14_code
def yL_weight : MethodName := ⟨RL, "weight", "(LCreasebook;I[D)I"⟩
abbrev cL_would : ByteArray := method_15_code
def yL_would : MethodName := ⟨RL, "would", "(LCreasebook;IIZZI[J)I"⟩
abbrev cL_bring : ByteArray := method_16_code
def yL_bring : MethodName := ⟨RL, "bring", "(LCreasebook;II[J)I"⟩
abbrev cL_law : ByteArray := code
def yL_law : MethodName := ⟨RL, "law", "([I)Z"⟩

