def R_PC : String := "PieceCutter"
def R_Ri : String := "PieceCutter$Ring"
def R_Fa : String := "PieceCutter$Fan"
def R_Mo : String := "PieceCutterModel"
def R_La : String := "PieceCutterLaw"
def R_Ma : String := "java/lang/Math"
def F_PC : u_T := fun k => match k with
  | 0 => ("PieceCutter", "width", "I", true)
  | 1 => ("PieceCutter", "height", "I", true)
  | 2 => ("PieceCutter", "focusNow", "I", false)
  | 3 => ("PieceCutter", "given", "LPieceCutter$Ring;", true)
  | 4 => ("PieceCutter", "kept", "LPieceCutter$Ring;", false)
  | 5 => ("PieceCutter", "spare", "LPieceCutter$Ring;", false)
  | 6 => ("PieceCutter", "picture", "LPieceCutter$Ring;", true)
  | _ => ("PieceCutter", "fan", "LPieceCutter$Fan;", true)
def t_PC : Nat → FieldType := fun k => match k with
  | 0 => .int
  | 1 => .int
  | 2 => .int
  | 3 => .object "PieceCutter$Ring"
  | 4 => .object "PieceCutter$Ring"
  | 5 => .object "PieceCutter$Ring"
  | 6 => .object "PieceCutter$Ring"
  | _ => .object "PieceCutter$Fan"
theorem n_PC : ∀ a, a < 8 → ∀ b, b < 8 → a ≠ b → (F_PC a).2.1 ≠ (F_PC b).2.1 := by decide +kernel
theorem t_PC_ok : ∀ k, k < 8 → parseFieldDescriptor (F_PC k).2.2.1 = some (t_PC k) := by decide +kernel
def F_Ri : u_T := fun k => match k with
  | 0 => ("PieceCutter$Ring", "numbers", "[J", true)
  | _ => ("PieceCutter$Ring", "size", "I", false)
def t_Ri : Nat → FieldType := fun k => match k with
  | 0 => .array .long
  | _ => .int
theorem n_Ri : ∀ a, a < 2 → ∀ b, b < 2 → a ≠ b → (F_Ri a).2.1 ≠ (F_Ri b).2.1 := by decide +kernel
theorem t_Ri_ok : ∀ k, k < 2 → parseFieldDescriptor (F_Ri k).2.2.1 = some (t_Ri k) := by decide +kernel
def F_Fa : u_T := fun k => match k with
  | 0 => ("PieceCutter$Fan", "seconds", "[I", true)
  | 1 => ("PieceCutter$Fan", "thirds", "[I", true)
  | 2 => ("PieceCutter$Fan", "areas", "[I", true)
  | _ => ("PieceCutter$Fan", "size", "I", false)
def t_Fa : Nat → FieldType := fun k => match k with
  | 0 => .array .int
  | 1 => .array .int
  | 2 => .array .int
  | _ => .int
theorem n_Fa : ∀ a, a < 4 → ∀ b, b < 4 → a ≠ b → (F_Fa a).2.1 ≠ (F_Fa b).2.1 := by decide +kernel
theorem t_Fa_ok : ∀ k, k < 4 → parseFieldDescriptor (F_Fa k).2.2.1 = some (t_Fa k) := by decide +kernel
def F_Mo : u_T := fun k => match k with
  | 0 => ("PieceCutterModel", "thrown", "I", false)
  | 1 => ("PieceCutterModel", "width", "I", true)
  | 2 => ("PieceCutterModel", "height", "I", true)
  | 3 => ("PieceCutterModel", "focus", "I", false)
  | 4 => ("PieceCutterModel", "text", "[J", true)
  | 5 => ("PieceCutterModel", "row", "[J", false)
  | 6 => ("PieceCutterModel", "many", "I", false)
  | 7 => ("PieceCutterModel", "next", "[J", false)
  | 8 => ("PieceCutterModel", "nexts", "I", false)
  | 9 => ("PieceCutterModel", "pieces", "[J", true)
  | 10 => ("PieceCutterModel", "areas", "[J", true)
  | _ => ("PieceCutterModel", "count", "I", false)
def t_Mo : Nat → FieldType := fun k => match k with
  | 0 => .int
  | 1 => .int
  | 2 => .int
  | 3 => .int
  | 4 => .array .long
  | 5 => .array .long
  | 6 => .int
  | 7 => .array .long
  | 8 => .int
  | 9 => .array .long
  | 10 => .array .long
  | _ => .int
theorem n_Mo : ∀ a, a < 12 → ∀ b, b < 12 → a ≠ b → (F_Mo a).2.1 ≠ (F_Mo b).2.1 := by decide +kernel
theorem t_Mo_ok : ∀ k, k < 12 → parseFieldDescriptor (F_Mo k).2.2.1 = some (t_Mo k) := by decide +kernel
abbrev cls4 : List vw_C := [(R_PC, F_PC, 8), (R_Ri, F_Ri, 2), (R_Fa, F_Fa, 4), (R_Mo, F_Mo, 12)]
abbrev b_PC_init : ByteArray := prog_1_method_1_code
def y_PC_init : MethodName := ⟨R_PC, "<init>", "(II)V"⟩
abbrev b_PC_pictureSize : ByteArray := prog_1_method_13_code
def y_PC_pictureSize : MethodName := ⟨R_PC, "pictureSize", "(I)I"⟩
abbrev b_Ri_init : ByteArray := prog_3_method_1_code
def y_Ri_init : MethodName := ⟨R_Ri, "<init>", "()V"⟩
abbrev b_Ri_addRow : ByteArray := prog_3_method_6_code
def y_Ri_addRow : MethodName := ⟨R_Ri, "addRow", "()I"⟩
abbrev b_Fa_init : ByteArray := prog_2_method_1_code
def y_Fa_init : MethodName := ⟨R_Fa, "<init>", "()V"⟩
abbrev b_PC_focus : ByteArray := prog_1_method_2_code
def y_PC_focus : MethodName := ⟨R_PC, "focus", "(I)Z"⟩
abbrev b_PC_place : ByteArray := prog_1_method_3_code
def y_PC_place : MethodName := ⟨R_PC, "place", "(IIII)Z"⟩
abbrev b_Ri_has : ByteArray := prog_3_method_2_code
def y_Ri_has : MethodName := ⟨R_Ri, "has", "(I)Z"⟩
abbrev b_PC_isPlace : ByteArray := prog_1_method_14_code
def y_PC_isPlace : MethodName := ⟨R_PC, "isPlace", "(I)Z"⟩
abbrev b_Ri_put : ByteArray := prog_3_method_4_code
def y_Ri_put : MethodName := ⟨R_Ri, "put", "(IIJ)V"⟩
abbrev b_PC_paint : ByteArray := prog_1_method_4_code
def y_PC_paint : MethodName := ⟨R_PC, "paint", "(IIII)Z"⟩
abbrev b_PC_isPaint : ByteArray := prog_1_method_15_code
def y_PC_isPaint : MethodName := ⟨R_PC, "isPaint", "(I)Z"⟩
abbrev b_PC_cut : ByteArray := prog_1_method_5_code
def y_PC_cut : MethodName := ⟨R_PC, "cut", "(Z)I"⟩
abbrev b_Ri_clear : ByteArray := prog_3_method_5_code
def y_Ri_clear : MethodName := ⟨R_Ri, "clear", "()V"⟩
abbrev b_Ri_addCopy : ByteArray := prog_3_method_7_code
def y_Ri_addCopy : MethodName := ⟨R_Ri, "addCopy", "(LPieceCutter$Ring;I)V"⟩
abbrev b_Ri_at : ByteArray := prog_3_method_3_code
def y_Ri_at : MethodName := ⟨R_Ri, "at", "(II)J"⟩
abbrev b_PC_cutBySide : ByteArray := prog_1_method_18_code
def y_PC_cutBySide : MethodName := ⟨R_PC, "cutBySide", "(I)V"⟩
abbrev b_PC_sideNumber : ByteArray := prog_1_method_19_code
def y_PC_sideNumber : MethodName := ⟨R_PC, "sideNumber", "(II)J"⟩
abbrev b_PC_addBetween : ByteArray := prog_1_method_20_code
def y_PC_addBetween : MethodName := ⟨R_PC, "addBetween", "(III)V"⟩
abbrev b_PC_div : ByteArray := prog_1_method_17_code
def y_PC_div : MethodName := ⟨R_PC, "div", "(JJ)J"⟩
abbrev b_Ma_floorDiv : ByteArray := prog_6_method_49_code
def y_Ma_floorDiv : MethodName := ⟨R_Ma, "floorDiv", "(JJ)J"⟩
abbrev b_PC_layOnPicture : ByteArray := prog_1_method_21_code
def y_PC_layOnPicture : MethodName := ⟨R_PC, "layOnPicture", "()V"⟩
abbrev b_PC_divide : ByteArray := prog_1_method_22_code
def y_PC_divide : MethodName := ⟨R_PC, "divide", "(Z)V"⟩
abbrev b_Fa_clear : ByteArray := prog_2_method_3_code
def y_Fa_clear : MethodName := ⟨R_Fa, "clear", "()V"⟩
abbrev b_PC_areaWith : ByteArray := prog_1_method_23_code
def y_PC_areaWith : MethodName := ⟨R_PC, "areaWith", "(II)J"⟩
abbrev b_Fa_add : ByteArray := prog_2_method_4_code
def y_Fa_add : MethodName := ⟨R_Fa, "add", "(IIJ)V"⟩
abbrev b_PC_piece : ByteArray := prog_1_method_6_code
def y_PC_piece : MethodName := ⟨R_PC, "piece", "(III)I"⟩
abbrev b_Fa_corner : ByteArray := prog_2_method_5_code
def y_Fa_corner : MethodName := ⟨R_Fa, "corner", "(II)I"⟩
abbrev b_Fa_has : ByteArray := prog_2_method_2_code
def y_Fa_has : MethodName := ⟨R_Fa, "has", "(I)Z"⟩
abbrev b_PC_area : ByteArray := prog_1_method_7_code
def y_PC_area : MethodName := ⟨R_PC, "area", "(I)I"⟩
abbrev b_PC_first : ByteArray := prog_1_method_8_code
def y_PC_first : MethodName := ⟨R_PC, "first", "(II)I"⟩
abbrev b_PC_covers : ByteArray := prog_1_method_24_code
def y_PC_covers : MethodName := ⟨R_PC, "covers", "(III)Z"⟩
abbrev b_PC_isPixel : ByteArray := prog_1_method_16_code
def y_PC_isPixel : MethodName := ⟨R_PC, "isPixel", "(II)Z"⟩
abbrev b_PC_isInside : ByteArray := prog_1_method_25_code
def y_PC_isInside : MethodName := ⟨R_PC, "isInside", "(IIII)Z"⟩
abbrev b_PC_edgeNumber : ByteArray := prog_1_method_26_code
def y_PC_edgeNumber : MethodName := ⟨R_PC, "edgeNumber", "(IIII)J"⟩
abbrev b_PC_cornerAfter : ByteArray := prog_1_method_27_code
def y_PC_cornerAfter : MethodName := ⟨R_PC, "cornerAfter", "(I)I"⟩
abbrev b_PC_middle : ByteArray := prog_1_method_28_code
def y_PC_middle : MethodName := ⟨R_PC, "middle", "(I)J"⟩
abbrev b_PC_last : ByteArray := prog_1_method_9_code
def y_PC_last : MethodName := ⟨R_PC, "last", "(II)I"⟩
abbrev b_PC_near : ByteArray := prog_1_method_10_code
def y_PC_near : MethodName := ⟨R_PC, "near", "(III)I"⟩
abbrev b_PC_weightSum : ByteArray := prog_1_method_30_code
def y_PC_weightSum : MethodName := ⟨R_PC, "weightSum", "(III)J"⟩
abbrev b_PC_weight : ByteArray := prog_1_method_29_code
def y_PC_weight : MethodName := ⟨R_PC, "weight", "(IIII)J"⟩
abbrev b_PC_number : ByteArray := prog_1_method_11_code
def y_PC_number : MethodName := ⟨R_PC, "number", "(IIII)I"⟩
abbrev b_PC_covered : ByteArray := prog_1_method_12_code
def y_PC_covered : MethodName := ⟨R_PC, "covered", "(II)I"⟩
abbrev b_La_cell : ByteArray := method_2_code
def y_La_cell : MethodName := ⟨R_La, "cell", "([II)I"⟩
abbrev b_Mo_init : ByteArray := prog_5_method_1_code
def y_Mo_init : MethodName := ⟨R_Mo, "<init>", "(II)V"⟩
abbrev b_Mo_focus : ByteArray := prog_5_method_5_code
def y_Mo_focus : MethodName := ⟨R_Mo, "focus", "(I)Z"⟩
abbrev b_Mo_within : ByteArray := prog_5_method_4_code
def y_Mo_within : MethodName := ⟨R_Mo, "within", "(III)Z"⟩
abbrev b_Mo_place : ByteArray := prog_5_method_7_code
def y_Mo_place : MethodName := ⟨R_Mo, "place", "(IIII)Z"⟩
abbrev b_Mo_far : ByteArray := prog_5_method_6_code
def y_Mo_far : MethodName := ⟨R_Mo, "far", "(I)Z"⟩
abbrev b_Mo_paint : ByteArray := prog_5_method_8_code
def y_Mo_paint : MethodName := ⟨R_Mo, "paint", "(IIII)Z"⟩
abbrev b_Mo_cut : ByteArray := prog_5_method_14_code
def y_Mo_cut : MethodName := ⟨R_Mo, "cut", "(Z)I"⟩
abbrev b_Mo_cutBy : ByteArray := prog_5_method_11_code
def y_Mo_cutBy : MethodName := ⟨R_Mo, "cutBy", "(I)V"⟩
abbrev b_Mo_number2 : ByteArray := prog_5_method_9_code
def y_Mo_number2 : MethodName := ⟨R_Mo, "number", "(II)J"⟩
abbrev b_Mo_between : ByteArray := prog_5_method_10_code
def y_Mo_between : MethodName := ⟨R_Mo, "between", "(IJIJ)V"⟩
abbrev b_Mo_div : ByteArray := prog_5_method_3_code
def y_Mo_div : MethodName := ⟨R_Mo, "div", "(JJ)J"⟩
abbrev b_Mo_lay : ByteArray := prog_5_method_12_code
def y_Mo_lay : MethodName := ⟨R_Mo, "lay", "(III)V"⟩
abbrev b_Mo_areaOf : ByteArray := prog_5_method_13_code
def y_Mo_areaOf : MethodName := ⟨R_Mo, "areaOf", "(I)J"⟩
abbrev b_Mo_piece : ByteArray := prog_5_method_15_code
def y_Mo_piece : MethodName := ⟨R_Mo, "piece", "(III)I"⟩
abbrev b_Mo_area : ByteArray := prog_5_method_16_code
def y_Mo_area : MethodName := ⟨R_Mo, "area", "(I)I"⟩
abbrev b_Mo_first : ByteArray := prog_5_method_21_code
def y_Mo_first : MethodName := ⟨R_Mo, "first", "(II)I"⟩
abbrev b_Mo_covers : ByteArray := prog_5_method_20_code
def y_Mo_covers : MethodName := ⟨R_Mo, "covers", "(III)Z"⟩
abbrev b_Mo_isPixel : ByteArray := prog_5_method_19_code
def y_Mo_isPixel : MethodName := ⟨R_Mo, "isPixel", "(II)Z"⟩
abbrev b_Mo_owns : ByteArray := prog_5_method_18_code
def y_Mo_owns : MethodName := ⟨R_Mo, "owns", "(IIIII)Z"⟩
abbrev b_Mo_edge : ByteArray := prog_5_method_17_code
def y_Mo_edge : MethodName := ⟨R_Mo, "edge", "(IIIII)J"⟩
abbrev b_Mo_last : ByteArray := prog_5_method_22_code
def y_Mo_last : MethodName := ⟨R_Mo, "last", "(II)I"⟩
abbrev b_Mo_near : ByteArray := prog_5_method_24_code
def y_Mo_near : MethodName := ⟨R_Mo, "near", "(III)I"⟩
abbrev b_Mo_weight : ByteArray := prog_5_method_23_code
def y_Mo_weight : MethodName := ⟨R_Mo, "weight", "(IIII)J"⟩
abbrev b_Mo_number : ByteArray := prog_5_method_25_code
def y_Mo_number : MethodName := ⟨R_Mo, "number", "(IIII)I"⟩
abbrev b_Mo_covered : ByteArray := prog_5_method_26_code
def y_Mo_covered : MethodName := ⟨R_Mo, "covered", "(II)I"⟩
abbrev b_La_law : ByteArray := code
def W0_0 : List Cond := [.selects R_Ri y_Ri_addRow y_Ri_addRow, .selects R_Ri y_Ri_has y_Ri_has, .selects R_Ri y_Ri_put y_Ri_put, .selects R_Ri y_Ri_clear y_Ri_clear, .selects R_Ri y_Ri_addCopy y_Ri_addCopy, .selects R_Ri y_Ri_at y_Ri_at, .selects R_PC y_PC_cutBySide y_PC_cutBySide, .selects R_PC y_PC_sideNumber y_PC_sideNumber, .selects R_PC y_PC_addBetween y_PC_addBetween, .selects R_PC y_PC_layOnPicture y_PC_layOnPicture, .selects R_PC y_PC_divide y_PC_divide, .selects R_Fa y_Fa_clear y_Fa_clear, .selects R_PC y_PC_areaWith y_PC_areaWith, .selects R_Fa y_Fa_add y_Fa_add, .selects R_Fa y_Fa_corner y_Fa_corner, .selects R_Fa y_Fa_has y_Fa_has, .selects R_PC y_PC_covers y_PC_covers, .selects R_PC y_PC_isPixel y_PC_isPixel, .selects R_PC y_PC_isInside y_PC_isInside, .selects R_PC y_PC_edgeNumber y_PC_edgeNumber, .selects R_PC y_PC_weightSum y_PC_weightSum, .selects R_PC y_PC_weight y_PC_weight, .selects R_Mo y_Mo_cutBy y_Mo_cutBy, .selects R_Mo y_Mo_number2 y_Mo_number2, .selects R_Mo y_Mo_between y_Mo_between, .selects R_Mo y_Mo_lay y_Mo_lay, .selects R_Mo y_Mo_areaOf y_Mo_areaOf, .selects R_Mo y_Mo_covers y_Mo_covers, .selects R_Mo y_Mo_isPixel y_Mo_isPixel, .selects R_Mo y_Mo_owns y_Mo_owns, .selects R_Mo y_Mo_edge y_Mo_edge, .selects R_Mo y_Mo_weight y_Mo_weight, .initialized R_La, .initialized R_PC, .initialized "java/lang/Math", .initialized R_Ri, .initialized R_Fa, .initialized R_Mo, .classLink R_La 7 R_PC, .instantiable R_PC 8, .methodLink R_La 15 y_PC_init, .instanceMethod y_PC_init, .code y_PC_init b_PC_init 4 none, .methodLink R_PC 3 objectInit, .instanceMethod objectInit, .code objectInit ⟨#[0xb1]⟩ 1 none, .methodLink R_PC 9 y_PC_pictureSize, .static y_PC_pictureSize, .code y_PC_pictureSize b_PC_pictureSize 1 (some .int), .methodLink R_PC 122 Lib.Math.min.name]
def W0_1 : List Cond := [.static Lib.Math.min.name, .code Lib.Math.min.name Lib.Math.min.code 2 (some .int), .methodLink R_PC 127 Lib.Math.max.name, .static Lib.Math.max.name, .code Lib.Math.max.name Lib.Math.max.code 2 (some .int), .classLink R_PC 23 R_Ri, .instantiable R_Ri 2, .instanceMethod y_Ri_init, .code y_Ri_init b_Ri_init 1 none, .methodLink R_Ri 3 objectInit, .fieldLink R_Ri 9 "PieceCutter$Ring" "numbers" "[J", .fieldLink R_Ri 15 "PieceCutter$Ring" "size" "I", .laysFinal "PieceCutter$Ring" "PieceCutter$Ring" "numbers" "[J", .lays "PieceCutter$Ring" "PieceCutter$Ring" "size" "I", .arrayClass .long, .instanceMethod y_Ri_addRow, .code y_Ri_addRow b_Ri_addRow 1 (some .int), .classLink R_PC 43 R_Fa, .instantiable R_Fa 4, .instanceMethod y_Fa_init, .code y_Fa_init b_Fa_init 1 none, .methodLink R_Fa 3 objectInit, .fieldLink R_Fa 9 "PieceCutter$Fan" "seconds" "[I", .fieldLink R_Fa 15 "PieceCutter$Fan" "thirds" "[I", .fieldLink R_Fa 18 "PieceCutter$Fan" "areas" "[I", .fieldLink R_Fa 21 "PieceCutter$Fan" "size" "I", .laysFinal "PieceCutter$Fan" "PieceCutter$Fan" "seconds" "[I", .laysFinal "PieceCutter$Fan" "PieceCutter$Fan" "thirds" "[I", .laysFinal "PieceCutter$Fan" "PieceCutter$Fan" "areas" "[I", .lays "PieceCutter$Fan" "PieceCutter$Fan" "size" "I", .arrayClass .int, .fieldLink R_PC 13 "PieceCutter" "width" "I", .fieldLink R_PC 17 "PieceCutter" "height" "I", .fieldLink R_PC 20 "PieceCutter" "focusNow" "I", .fieldLink R_PC 26 "PieceCutter" "given" "LPieceCutter$Ring;", .fieldLink R_PC 34 "PieceCutter" "kept" "LPieceCutter$Ring;", .fieldLink R_PC 37 "PieceCutter" "spare" "LPieceCutter$Ring;", .fieldLink R_PC 40 "PieceCutter" "picture" "LPieceCutter$Ring;", .fieldLink R_PC 46 "PieceCutter" "fan" "LPieceCutter$Fan;", .laysFinal "PieceCutter" "PieceCutter" "width" "I", .laysFinal "PieceCutter" "PieceCutter" "height" "I", .lays "PieceCutter" "PieceCutter" "focusNow" "I", .laysFinal "PieceCutter" "PieceCutter" "given" "LPieceCutter$Ring;", .lays "PieceCutter" "PieceCutter" "kept" "LPieceCutter$Ring;", .lays "PieceCutter" "PieceCutter" "spare" "LPieceCutter$Ring;", .laysFinal "PieceCutter" "PieceCutter" "picture" "LPieceCutter$Ring;", .laysFinal "PieceCutter" "PieceCutter" "fan" "LPieceCutter$Fan;", .methodLink R_La 21 y_PC_focus, .instanceMethod y_PC_focus, .selects R_PC y_PC_focus y_PC_focus]
def W0_2 : List Cond := [.code y_PC_focus b_PC_focus 2 (some .boolean), .methodLink R_La 26 y_PC_place, .instanceMethod y_PC_place, .selects R_PC y_PC_place y_PC_place, .code y_PC_place b_PC_place 5 (some .boolean), .instanceMethod y_Ri_has, .code y_Ri_has b_Ri_has 2 (some .boolean), .methodLink R_PC 54 y_PC_isPlace, .static y_PC_isPlace, .code y_PC_isPlace b_PC_isPlace 1 (some .boolean), .constant R_PC 130 (-16777216), .constant R_PC 131 16777216, .instanceMethod y_Ri_put, .code y_Ri_put b_Ri_put 5 none, .methodLink R_Ri 19 y_Ri_has, .methodLink R_La 31 y_PC_paint, .instanceMethod y_PC_paint, .selects R_PC y_PC_paint y_PC_paint, .code y_PC_paint b_PC_paint 5 (some .boolean), .methodLink R_PC 61 y_PC_isPaint, .static y_PC_isPaint, .code y_PC_isPaint b_PC_isPaint 1 (some .boolean), .constant R_PC 132 (-131072), .constant R_PC 133 131072, .constant R_PC 64 65536, .methodLink R_La 35 y_PC_cut, .instanceMethod y_PC_cut, .selects R_PC y_PC_cut y_PC_cut, .code y_PC_cut b_PC_cut 3 (some .int), .instanceMethod y_Ri_clear, .code y_Ri_clear b_Ri_clear 1 none, .instanceMethod y_Ri_addCopy, .code y_Ri_addCopy b_Ri_addCopy 5 none, .methodLink R_Ri 23 y_Ri_addRow, .methodLink R_Ri 27 y_Ri_at, .instanceMethod y_Ri_at, .code y_Ri_at b_Ri_at 3 (some .long), .methodLink R_Ri 31 y_Ri_put, .methodLink R_PC 72 y_PC_cutBySide, .instanceMethod y_PC_cutBySide, .code y_PC_cutBySide b_PC_cutBySide 6 none, .methodLink R_PC 138 y_PC_sideNumber, .instanceMethod y_PC_sideNumber, .code y_PC_sideNumber b_PC_sideNumber 9 (some .long), .constantLong R_PC 145 4096, .methodLink R_PC 141 y_PC_addBetween, .instanceMethod y_PC_addBetween, .code y_PC_addBetween b_PC_addBetween 14 none, .methodLink R_PC 110 y_PC_div, .static y_PC_div]
def W0_3 : List Cond := [.code y_PC_div b_PC_div 4 (some .long), .methodLink R_PC 134 y_Ma_floorDiv, .static y_Ma_floorDiv, .code y_Ma_floorDiv b_Ma_floorDiv 6 (some .long), .methodLink R_PC 76 y_PC_layOnPicture, .instanceMethod y_PC_layOnPicture, .code y_PC_layOnPicture b_PC_layOnPicture 4 none, .constantLong R_PC 147 16, .constantLong R_PC 149 8, .constantLong R_PC 151 4294967296, .methodLink R_PC 79 y_PC_divide, .instanceMethod y_PC_divide, .code y_PC_divide b_PC_divide 5 none, .instanceMethod y_Fa_clear, .code y_Fa_clear b_Fa_clear 1 none, .methodLink R_PC 154 y_PC_areaWith, .instanceMethod y_PC_areaWith, .code y_PC_areaWith b_PC_areaWith 7 (some .long), .instanceMethod y_Fa_add, .code y_Fa_add b_Fa_add 5 none, .methodLink R_La 40 y_PC_piece, .instanceMethod y_PC_piece, .selects R_PC y_PC_piece y_PC_piece, .code y_PC_piece b_PC_piece 4 (some .int), .instanceMethod y_Fa_corner, .code y_Fa_corner b_Fa_corner 3 (some .int), .methodLink R_Fa 25 y_Fa_has, .instanceMethod y_Fa_has, .code y_Fa_has b_Fa_has 2 (some .boolean), .methodLink R_La 45 y_PC_area, .instanceMethod y_PC_area, .selects R_PC y_PC_area y_PC_area, .code y_PC_area b_PC_area 2 (some .int), .methodLink R_La 50 y_PC_first, .instanceMethod y_PC_first, .selects R_PC y_PC_first y_PC_first, .code y_PC_first b_PC_first 4 (some .int), .methodLink R_PC 99 y_PC_covers, .instanceMethod y_PC_covers, .code y_PC_covers b_PC_covers 5 (some .boolean), .methodLink R_PC 118 y_PC_isPixel, .instanceMethod y_PC_isPixel, .code y_PC_isPixel b_PC_isPixel 3 (some .boolean), .methodLink R_PC 160 y_PC_isInside, .instanceMethod y_PC_isInside, .code y_PC_isInside b_PC_isInside 11 (some .boolean), .methodLink R_PC 164 y_PC_edgeNumber, .instanceMethod y_PC_edgeNumber, .code y_PC_edgeNumber b_PC_edgeNumber 11 (some .long), .methodLink R_PC 167 y_PC_cornerAfter]
def W0_4 : List Cond := [.static y_PC_cornerAfter, .code y_PC_cornerAfter b_PC_cornerAfter 1 (some .int), .methodLink R_PC 170 y_PC_middle, .static y_PC_middle, .code y_PC_middle b_PC_middle 1 (some .long), .methodLink R_La 55 y_PC_last, .instanceMethod y_PC_last, .selects R_PC y_PC_last y_PC_last, .code y_PC_last b_PC_last 4 (some .int), .methodLink R_La 59 y_PC_near, .instanceMethod y_PC_near, .selects R_PC y_PC_near y_PC_near, .code y_PC_near b_PC_near 4 (some .int), .methodLink R_PC 103 y_PC_weightSum, .instanceMethod y_PC_weightSum, .code y_PC_weightSum b_PC_weightSum 4 (some .long), .methodLink R_PC 114 y_PC_weight, .instanceMethod y_PC_weight, .code y_PC_weight b_PC_weight 5 (some .long), .methodLink R_PC 107 y_PC_area, .methodLink R_La 63 y_PC_number, .instanceMethod y_PC_number, .selects R_PC y_PC_number y_PC_number, .code y_PC_number b_PC_number 8 (some .int), .methodLink R_La 68 y_PC_covered, .instanceMethod y_PC_covered, .selects R_PC y_PC_covered y_PC_covered, .code y_PC_covered b_PC_covered 5 (some .int), .methodLink R_La 9 y_La_cell, .static y_La_cell, .code y_La_cell b_La_cell 2 (some .int), .classLink R_La 18 R_Mo, .instantiable R_Mo 12, .methodLink R_La 20 y_Mo_init, .instanceMethod y_Mo_init, .code y_Mo_init b_Mo_init 3 none, .methodLink R_Mo 1 objectInit, .fieldLink R_Mo 35 "PieceCutterModel" "thrown" "I", .fieldLink R_Mo 29 "PieceCutterModel" "width" "I", .fieldLink R_Mo 32 "PieceCutterModel" "height" "I", .fieldLink R_Mo 7 "PieceCutterModel" "focus" "I", .fieldLink R_Mo 13 "PieceCutterModel" "text" "[J", .fieldLink R_Mo 17 "PieceCutterModel" "row" "[J", .fieldLink R_Mo 60 "PieceCutterModel" "many" "I", .fieldLink R_Mo 20 "PieceCutterModel" "next" "[J", .fieldLink R_Mo 53 "PieceCutterModel" "nexts" "I", .fieldLink R_Mo 23 "PieceCutterModel" "pieces" "[J", .fieldLink R_Mo 26 "PieceCutterModel" "areas" "[J", .fieldLink R_Mo 81 "PieceCutterModel" "count" "I", .lays "PieceCutterModel" "PieceCutterModel" "thrown" "I"]
def W0_5 : List Cond := [.laysFinal "PieceCutterModel" "PieceCutterModel" "width" "I", .laysFinal "PieceCutterModel" "PieceCutterModel" "height" "I", .lays "PieceCutterModel" "PieceCutterModel" "focus" "I", .laysFinal "PieceCutterModel" "PieceCutterModel" "text" "[J", .lays "PieceCutterModel" "PieceCutterModel" "row" "[J", .lays "PieceCutterModel" "PieceCutterModel" "many" "I", .lays "PieceCutterModel" "PieceCutterModel" "next" "[J", .lays "PieceCutterModel" "PieceCutterModel" "nexts" "I", .laysFinal "PieceCutterModel" "PieceCutterModel" "pieces" "[J", .laysFinal "PieceCutterModel" "PieceCutterModel" "areas" "[J", .lays "PieceCutterModel" "PieceCutterModel" "count" "I", .methodLink R_La 25 y_Mo_focus, .instanceMethod y_Mo_focus, .selects R_Mo y_Mo_focus y_Mo_focus, .code y_Mo_focus b_Mo_focus 2 (some .boolean), .methodLink R_Mo 38 y_Mo_within, .static y_Mo_within, .code y_Mo_within b_Mo_within 3 (some .boolean), .methodLink R_La 30 y_Mo_place, .instanceMethod y_Mo_place, .selects R_Mo y_Mo_place y_Mo_place, .code y_Mo_place b_Mo_place 5 (some .boolean), .methodLink R_Mo 44 y_Mo_far, .static y_Mo_far, .code y_Mo_far b_Mo_far 1 (some .boolean), .constant R_Mo 42 (-16777216), .constant R_Mo 43 16777216, .methodLink R_La 34 y_Mo_paint, .instanceMethod y_Mo_paint, .selects R_Mo y_Mo_paint y_Mo_paint, .code y_Mo_paint b_Mo_paint 5 (some .boolean), .constant R_Mo 48 (-131072), .constant R_Mo 49 131072, .constant R_Mo 50 65536, .methodLink R_La 39 y_Mo_cut, .instanceMethod y_Mo_cut, .selects R_Mo y_Mo_cut y_Mo_cut, .code y_Mo_cut b_Mo_cut 3 (some .int), .methodLink R_Mo 77 y_Mo_cutBy, .instanceMethod y_Mo_cutBy, .code y_Mo_cutBy b_Mo_cutBy 9 none, .methodLink R_Mo 63 y_Mo_number2, .instanceMethod y_Mo_number2, .code y_Mo_number2 b_Mo_number2 9 (some .long), .constantLong R_Mo 51 4096, .methodLink R_Mo 67 y_Mo_between, .instanceMethod y_Mo_between, .code y_Mo_between b_Mo_between 8 none, .methodLink R_Mo 56 y_Mo_div, .static y_Mo_div]
def W0_6 : List Cond := [.code y_Mo_div b_Mo_div 6 (some .long), .methodLink R_Mo 84 y_Mo_lay, .instanceMethod y_Mo_lay, .code y_Mo_lay b_Mo_lay 8 none, .constantLong R_Mo 71 16, .constantLong R_Mo 73 8, .constantLong R_Mo 75 4294967296, .methodLink R_Mo 88 y_Mo_areaOf, .instanceMethod y_Mo_areaOf, .code y_Mo_areaOf b_Mo_areaOf 3 (some .long), .methodLink R_La 44 y_Mo_piece, .instanceMethod y_Mo_piece, .selects R_Mo y_Mo_piece y_Mo_piece, .code y_Mo_piece b_Mo_piece 4 (some .int), .methodLink R_La 49 y_Mo_area, .instanceMethod y_Mo_area, .selects R_Mo y_Mo_area y_Mo_area, .code y_Mo_area b_Mo_area 2 (some .int), .methodLink R_La 54 y_Mo_first, .instanceMethod y_Mo_first, .selects R_Mo y_Mo_first y_Mo_first, .code y_Mo_first b_Mo_first 4 (some .int), .methodLink R_Mo 104 y_Mo_covers, .instanceMethod y_Mo_covers, .code y_Mo_covers b_Mo_covers 4 (some .boolean), .methodLink R_Mo 96 y_Mo_isPixel, .instanceMethod y_Mo_isPixel, .code y_Mo_isPixel b_Mo_isPixel 3 (some .boolean), .methodLink R_Mo 100 y_Mo_owns, .instanceMethod y_Mo_owns, .code y_Mo_owns b_Mo_owns 10 (some .boolean), .methodLink R_Mo 92 y_Mo_edge, .instanceMethod y_Mo_edge, .code y_Mo_edge b_Mo_edge 8 (some .long), .methodLink R_La 58 y_Mo_last, .instanceMethod y_Mo_last, .selects R_Mo y_Mo_last y_Mo_last, .code y_Mo_last b_Mo_last 4 (some .int), .methodLink R_La 62 y_Mo_near, .instanceMethod y_Mo_near, .selects R_Mo y_Mo_near y_Mo_near, .code y_Mo_near b_Mo_near 4 (some .int), .methodLink R_Mo 107 y_Mo_weight, .instanceMethod y_Mo_weight, .code y_Mo_weight b_Mo_weight 5 (some .long), .methodLink R_La 67 y_Mo_number, .instanceMethod y_Mo_number, .selects R_Mo y_Mo_number y_Mo_number, .code y_Mo_number b_Mo_number 10 (some .int), .methodLink R_La 71 y_Mo_covered]
def W0_7 : List Cond := [.instanceMethod y_Mo_covered, .selects R_Mo y_Mo_covered y_Mo_covered, .code y_Mo_covered b_Mo_covered 5 (some .int)]
def W0 : List Cond := W0_0 ++ (W0_1 ++ (W0_2 ++ (W0_3 ++ (W0_4 ++ (W0_5 ++ (W0_6 ++ (W0_7)))))))
theorem w0_0 {w : Cond} (h : w ∈ W0_0) : w ∈ W0 := List.mem_append_left _ h
set_option maxRecDepth 20000 in
theorem w0i_0 : W0_0 = ([0, 1, 2, 3, 4, 5, 6, 7, 8, 9, 10, 11, 12, 13, 14, 15, 16, 17, 18, 19, 20, 21, 22, 23, 24, 25, 26, 27, 28, 29, 30, 31, 32, 33, 34, 35, 36, 37, 38, 39, 40, 41, 42, 43, 44, 45, 46, 47, 48, 49] : List Nat).filterMap (fun i => lw_tbl[i]?) := by decide +kernel
theorem w0g_0 : W0_0.all goodWord = true := by decide +kernel
theorem w0_1 {w : Cond} (h : w ∈ W0_1) : w ∈ W0 := List.mem_append_right _ (List.mem_append_left _ h)
set_option maxRecDepth 20000 in
theorem w0i_1 : W0_1 = ([50, 51, 52, 53, 54, 55, 56, 58, 59, 60, 61, 62, 64, 66, 69, 72, 73, 74, 75, 77, 78, 79, 80, 81, 82, 84, 86, 88, 90, 92, 95, 96, 97, 98, 99, 100, 101, 102, 103, 104, 106, 108, 110, 112, 114, 116, 118, 121, 122, 123] : List Nat).filterMap (fun i => lw_tbl[i]?) := by decide +kernel
theorem w0g_1 : W0_1.all goodWord = true := by decide +kernel
theorem w0_2 {w : Cond} (h : w ∈ W0_2) : w ∈ W0 := List.mem_append_right _ (List.mem_append_right _ (List.mem_append_left _ h))
set_option maxRecDepth 20000 in
theorem w0i_2 : W0_2 = ([124, 125, 126, 127, 128, 131, 132, 133, 134, 135, 136, 137, 140, 141, 142, 143, 144, 145, 146, 147, 148, 149, 150, 151, 152, 153, 154, 155, 156, 159, 160, 163, 164, 165, 166, 168, 169, 170, 171, 173, 174, 175, 177, 178, 180, 181, 183, 184, 185, 186] : List Nat).filterMap (fun i => lw_tbl[i]?) := by decide +kernel
theorem w0g_2 : W0_2.all goodWord = true := by decide +kernel
theorem w0_3 {w : Cond} (h : w ∈ W0_3) : w ∈ W0 := List.mem_append_right _ (List.mem_append_right _ (List.mem_append_right _ (List.mem_append_left _ h)))
set_option maxRecDepth 20000 in
theorem w0i_3 : W0_3 = ([187, 188, 189, 190, 191, 193, 194, 195, 196, 197, 198, 200, 201, 204, 205, 206, 208, 209, 212, 213, 214, 215, 216, 217, 220, 221, 222, 224, 225, 226, 227, 228, 229, 231, 232, 233, 234, 235, 237, 238, 239, 241, 242, 243, 245, 246, 247, 249, 250, 251] : List Nat).filterMap (fun i => lw_tbl[i]?) := by decide +kernel
theorem w0g_3 : W0_3.all goodWord = true := by decide +kernel
theorem w0_4 {w : Cond} (h : w ∈ W0_4) : w ∈ W0 := List.mem_append_right _ (List.mem_append_right _ (List.mem_append_right _ (List.mem_append_right _ (List.mem_append_left _ h))))
set_option maxRecDepth 20000 in
theorem w0i_4 : W0_4 = ([252, 253, 254, 255, 256, 257, 258, 259, 260, 261, 262, 263, 264, 265, 267, 268, 269, 271, 272, 273, 274, 275, 276, 277, 278, 279, 280, 281, 282, 283, 284, 285, 286, 287, 288, 289, 290, 291, 292, 293, 294, 295, 296, 297, 298, 299, 300, 301, 302, 303] : List Nat).filterMap (fun i => lw_tbl[i]?) := by decide +kernel
theorem w0g_4 : W0_4.all goodWord = true := by decide +kernel
theorem w0_5 {w : Cond} (h : w ∈ W0_5) : w ∈ W0 := List.mem_append_right _ (List.mem_append_right _ (List.mem_append_right _ (List.mem_append_right _ (List.mem_append_right _ (List.mem_append_left _ h)))))
set_option maxRecDepth 20000 in
theorem w0i_5 : W0_5 = ([305, 307, 309, 311, 313, 315, 317, 319, 321, 323, 325, 328, 329, 330, 331, 332, 333, 334, 335, 336, 337, 338, 339, 340, 341, 342, 343, 344, 345, 346, 347, 348, 349, 350, 351, 352, 353, 354, 355, 357, 358, 359, 361, 362, 363, 364, 366, 367, 368, 369] : List Nat).filterMap (fun i => lw_tbl[i]?) := by decide +kernel
theorem w0g_5 : W0_5.all goodWord = true := by decide +kernel
theorem w0_6 {w : Cond} (h : w ∈ W0_6) : w ∈ W0 := List.mem_append_right _ (List.mem_append_right _ (List.mem_append_right _ (List.mem_append_right _ (List.mem_append_right _ (List.mem_append_right _ (List.mem_append_left _ h))))))
set_option maxRecDepth 20000 in
theorem w0i_6 : W0_6 = ([370, 371, 373, 374, 375, 376, 377, 378, 380, 381, 382, 383, 384, 385, 386, 387, 388, 389, 390, 391, 392, 393, 394, 396, 397, 398, 400, 401, 402, 404, 405, 406, 408, 409, 410, 411, 412, 413, 414, 415, 416, 417, 418, 420, 421, 422, 423, 424, 425, 426] : List Nat).filterMap (fun i => lw_tbl[i]?) := by decide +kernel
theorem w0g_6 : W0_6.all goodWord = true := by decide +kernel
theorem w0_7 {w : Cond} (h : w ∈ W0_7) : w ∈ W0 := List.mem_append_right _ (List.mem_append_right _ (List.mem_append_right _ (List.mem_append_right _ (List.mem_append_right _ (List.mem_append_right _ (List.mem_append_right _ (h)))))))
set_option maxRecDepth 20000 in
theorem w0i_7 : W0_7 = ([427, 428, 429] : List Nat).filterMap (fun i => lw_tbl[i]?) := by decide +kernel
theorem w0g_7 : W0_7.all goodWord = true := by decide +kernel
theorem wd_0 : Cond.selects R_Ri y_Ri_addRow y_Ri_addRow ∈ W0 := w0_0 (List.mem_of_getElem? (i := 0) rfl)
theorem wd_1 : Cond.selects R_Ri y_Ri_has y_Ri_has ∈ W0 := w0_0 (List.mem_of_getElem? (i := 1) rfl)
theorem wd_2 : Cond.selects R_Ri y_Ri_put y_Ri_put ∈ W0 := w0_0 (List.mem_of_getElem? (i := 2) rfl)
theorem wd_3 : Cond.selects R_Ri y_Ri_clear y_Ri_clear ∈ W0 := w0_0 (List.mem_of_getElem? (i := 3) rfl)
theorem wd_4 : Cond.selects R_Ri y_Ri_addCopy y_Ri_addCopy ∈ W0 := w0_0 (List.mem_of_getElem? (i := 4) rfl)
theorem wd_5 : Cond.selects R_Ri y_Ri_at y_Ri_at ∈ W0 := w0_0 (List.mem_of_getElem? (i := 5) rfl)
theorem wd_6 : Cond.selects R_PC y_PC_cutBySide y_PC_cutBySide ∈ W0 := w0_0 (List.mem_of_getElem? (i := 6) rfl)
theorem wd_7 : Cond.selects R_PC y_PC_sideNumber y_PC_sideNumber ∈ W0 := w0_0 (List.mem_of_getElem? (i := 7) rfl)
theorem wd_8 : Cond.selects R_PC y_PC_addBetween y_PC_addBetween ∈ W0 := w0_0 (List.mem_of_getElem? (i := 8) rfl)
theorem wd_9 : Cond.selects R_PC y_PC_layOnPicture y_PC_layOnPicture ∈ W0 := w0_0 (List.mem_of_getElem? (i := 9) rfl)
theorem wd_10 : Cond.selects R_PC y_PC_divide y_PC_divide ∈ W0 := w0_0 (List.mem_of_getElem? (i := 10) rfl)
theorem wd_11 : Cond.selects R_Fa y_Fa_clear y_Fa_clear ∈ W0 := w0_0 (List.mem_of_getElem? (i := 11) rfl)
theorem wd_12 : Cond.selects R_PC y_PC_areaWith y_PC_areaWith ∈ W0 := w0_0 (List.mem_of_getElem? (i := 12) rfl)
theorem wd_13 : Cond.selects R_Fa y_Fa_add y_Fa_add ∈ W0 := w0_0 (List.mem_of_getElem? (i := 13) rfl)
theorem wd_14 : Cond.selects R_Fa y_Fa_corner y_Fa_corner ∈ W0 := w0_0 (List.mem_of_getElem? (i := 14) rfl)
theorem wd_15 : Cond.selects R_Fa y_Fa_has y_Fa_has ∈ W0 := w0_0 (List.mem_of_getElem? (i := 15) rfl)
theorem wd_16 : Cond.selects R_PC y_PC_covers y_PC_covers ∈ W0 := w0_0 (List.mem_of_getElem? (i := 16) rfl)
theorem wd_17 : Cond.selects R_PC y_PC_isPixel y_PC_isPixel ∈ W0 := w0_0 (List.mem_of_getElem? (i := 17) rfl)
theorem wd_18 : Cond.selects R_PC y_PC_isInside y_PC_isInside ∈ W0 := w0_0 (List.mem_of_getElem? (i := 18) rfl)
theorem wd_19 : Cond.selects R_PC y_PC_edgeNumber y_PC_edgeNumber ∈ W0 := w0_0 (List.mem_of_getElem? (i := 19) rfl)
theorem wd_20 : Cond.selects R_PC y_PC_weightSum y_PC_weightSum ∈ W0 := w0_0 (List.mem_of_getElem? (i := 20) rfl)
theorem wd_21 : Cond.selects R_PC y_PC_weight y_PC_weight ∈ W0 := w0_0 (List.mem_of_getElem? (i := 21) rfl)
theorem wd_22 : Cond.selects R_Mo y_Mo_cutBy y_Mo_cutBy ∈ W0 := w0_0 (List.mem_of_getElem? (i := 22) rfl)
theorem wd_23 : Cond.selects R_Mo y_Mo_number2 y_Mo_number2 ∈ W0 := w0_0 (List.mem_of_getElem? (i := 23) rfl)
theorem wd_24 : Cond.selects R_Mo y_Mo_between y_Mo_between ∈ W0 := w0_0 (List.mem_of_getElem? (i := 24) rfl)
theorem wd_25 : Cond.selects R_Mo y_Mo_lay y_Mo_lay ∈ W0 := w0_0 (List.mem_of_getElem? (i := 25) rfl)
theorem wd_26 : Cond.selects R_Mo y_Mo_areaOf y_Mo_areaOf ∈ W0 := w0_0 (List.mem_of_getElem? (i := 26) rfl)
theorem wd_27 : Cond.selects R_Mo y_Mo_covers y_Mo_covers ∈ W0 := w0_0 (List.mem_of_getElem? (i := 27) rfl)
theorem wd_28 : Cond.selects R_Mo y_Mo_isPixel y_Mo_isPixel ∈ W0 := w0_0 (List.mem_of_getElem? (i := 28) rfl)
theorem wd_29 : Cond.selects R_Mo y_Mo_owns y_Mo_owns ∈ W0 := w0_0 (List.mem_of_getElem? (i := 29) rfl)
theorem wd_30 : Cond.selects R_Mo y_Mo_edge y_Mo_edge ∈ W0 := w0_0 (List.mem_of_getElem? (i := 30) rfl)
theorem wd_31 : Cond.selects R_Mo y_Mo_weight y_Mo_weight ∈ W0 := w0_0 (List.mem_of_getElem? (i := 31) rfl)
theorem wd_32 : Cond.initialized R_La ∈ W0 := w0_0 (List.mem_of_getElem? (i := 32) rfl)
theorem wd_33 : Cond.initialized R_PC ∈ W0 := w0_0 (List.mem_of_getElem? (i := 33) rfl)
theorem wd_34 : Cond.initialized "java/lang/Math" ∈ W0 := w0_0 (List.mem_of_getElem? (i := 34) rfl)
theorem wd_35 : Cond.initialized R_Ri ∈ W0 := w0_0 (List.mem_of_getElem? (i := 35) rfl)
theorem wd_36 : Cond.initialized R_Fa ∈ W0 := w0_0 (List.mem_of_getElem? (i := 36) rfl)
theorem wd_37 : Cond.initialized R_Mo ∈ W0 := w0_0 (List.mem_of_getElem? (i := 37) rfl)
theorem wd_38 : Cond.classLink R_La 7 R_PC ∈ W0 := w0_0 (List.mem_of_getElem? (i := 38) rfl)
theorem wd_39 : Cond.instantiable R_PC 8 ∈ W0 := w0_0 (List.mem_of_getElem? (i := 39) rfl)
theorem wd_40 : Cond.methodLink R_La 15 y_PC_init ∈ W0 := w0_0 (List.mem_of_getElem? (i := 40) rfl)
theorem wd_41 : Cond.instanceMethod y_PC_init ∈ W0 := w0_0 (List.mem_of_getElem? (i := 41) rfl)
theorem wd_42 : Cond.code y_PC_init b_PC_init 4 none ∈ W0 := w0_0 (List.mem_of_getElem? (i := 42) rfl)
theorem wd_43 : Cond.methodLink R_PC 3 objectInit ∈ W0 := w0_0 (List.mem_of_getElem? (i := 43) rfl)
theorem wd_44 : Cond.instanceMethod objectInit ∈ W0 := w0_0 (List.mem_of_getElem? (i := 44) rfl)
theorem wd_45 : Cond.code objectInit ⟨#[0xb1]⟩ 1 none ∈ W0 := w0_0 (List.mem_of_getElem? (i := 45) rfl)
theorem wd_46 : Cond.methodLink R_PC 9 y_PC_pictureSize ∈ W0 := w0_0 (List.mem_of_getElem? (i := 46) rfl)
theorem wd_47 : Cond.static y_PC_pictureSize ∈ W0 := w0_0 (List.mem_of_getElem? (i := 47) rfl)
theorem wd_48 : Cond.code y_PC_pictureSize b_PC_pictureSize 1 (some .int) ∈ W0 := w0_0 (List.mem_of_getElem? (i := 48) rfl)
theorem wd_49 : Cond.methodLink R_PC 122 Lib.Math.min.name ∈ W0 := w0_0 (List.mem_of_getElem? (i := 49) rfl)
theorem wd_50 : Cond.static Lib.Math.min.name ∈ W0 := w0_1 (List.mem_of_getElem? (i := 0) rfl)
theorem wd_51 : Cond.code Lib.Math.min.name Lib.Math.min.code 2 (some .int) ∈ W0 := w0_1 (List.mem_of_getElem? (i := 1) rfl)
theorem wd_52 : Cond.methodLink R_PC 127 Lib.Math.max.name ∈ W0 := w0_1 (List.mem_of_getElem? (i := 2) rfl)
theorem wd_53 : Cond.static Lib.Math.max.name ∈ W0 := w0_1 (List.mem_of_getElem? (i := 3) rfl)
theorem wd_54 : Cond.code Lib.Math.max.name Lib.Math.max.code 2 (some .int) ∈ W0 := w0_1 (List.mem_of_getElem? (i := 4) rfl)
theorem wd_55 : Cond.classLink R_PC 23 R_Ri ∈ W0 := w0_1 (List.mem_of_getElem? (i := 5) rfl)
theorem wd_56 : Cond.instantiable R_Ri 2 ∈ W0 := w0_1 (List.mem_of_getElem? (i := 6) rfl)
theorem wd_57 : Cond.instanceMethod y_Ri_init ∈ W0 := w0_1 (List.mem_of_getElem? (i := 7) rfl)
theorem wd_58 : Cond.code y_Ri_init b_Ri_init 1 none ∈ W0 := w0_1 (List.mem_of_getElem? (i := 8) rfl)
theorem wd_59 : Cond.methodLink R_Ri 3 objectInit ∈ W0 := w0_1 (List.mem_of_getElem? (i := 9) rfl)
theorem wd_60 : Cond.fieldLink R_Ri 9 "PieceCutter$Ring" "numbers" "[J" ∈ W0 := w0_1 (List.mem_of_getElem? (i := 10) rfl)
theorem wd_61 : Cond.fieldLink R_Ri 15 "PieceCutter$Ring" "size" "I" ∈ W0 := w0_1 (List.mem_of_getElem? (i := 11) rfl)
theorem wd_62 : Cond.laysFinal "PieceCutter$Ring" "PieceCutter$Ring" "numbers" "[J" ∈ W0 := w0_1 (List.mem_of_getElem? (i := 12) rfl)
theorem wd_63 : Cond.lays "PieceCutter$Ring" "PieceCutter$Ring" "size" "I" ∈ W0 := w0_1 (List.mem_of_getElem? (i := 13) rfl)
theorem wd_64 : Cond.arrayClass .long ∈ W0 := w0_1 (List.mem_of_getElem? (i := 14) rfl)
theorem wd_65 : Cond.instanceMethod y_Ri_addRow ∈ W0 := w0_1 (List.mem_of_getElem? (i := 15) rfl)
theorem wd_66 : Cond.code y_Ri_addRow b_Ri_addRow 1 (some .int) ∈ W0 := w0_1 (List.mem_of_getElem? (i := 16) rfl)
theorem wd_67 : Cond.classLink R_PC 43 R_Fa ∈ W0 := w0_1 (List.mem_of_getElem? (i := 17) rfl)
theorem wd_68 : Cond.instantiable R_Fa 4 ∈ W0 := w0_1 (List.mem_of_getElem? (i := 18) rfl)
theorem wd_69 : Cond.instanceMethod y_Fa_init ∈ W0 := w0_1 (List.mem_of_getElem? (i := 19) rfl)
theorem wd_70 : Cond.code y_Fa_init b_Fa_init 1 none ∈ W0 := w0_1 (List.mem_of_getElem? (i := 20) rfl)
theorem wd_71 : Cond.methodLink R_Fa 3 objectInit ∈ W0 := w0_1 (List.mem_of_getElem? (i := 21) rfl)
theorem wd_72 : Cond.fieldLink R_Fa 9 "PieceCutter$Fan" "seconds" "[I" ∈ W0 := w0_1 (List.mem_of_getElem? (i := 22) rfl)
theorem wd_73 : Cond.fieldLink R_Fa 15 "PieceCutter$Fan" "thirds" "[I" ∈ W0 := w0_1 (List.mem_of_getElem? (i := 23) rfl)
theorem wd_74 : Cond.fieldLink R_Fa 18 "PieceCutter$Fan" "areas" "[I" ∈ W0 := w0_1 (List.mem_of_getElem? (i := 24) rfl)
theorem wd_75 : Cond.fieldLink R_Fa 21 "PieceCutter$Fan" "size" "I" ∈ W0 := w0_1 (List.mem_of_getElem? (i := 25) rfl)
theorem wd_76 : Cond.laysFinal "PieceCutter$Fan" "PieceCutter$Fan" "seconds" "[I" ∈ W0 := w0_1 (List.mem_of_getElem? (i := 26) rfl)
theorem wd_77 : Cond.laysFinal "PieceCutter$Fan" "PieceCutter$Fan" "thirds" "[I" ∈ W0 := w0_1 (List.mem_of_getElem? (i := 27) rfl)
theorem wd_78 : Cond.laysFinal "PieceCutter$Fan" "PieceCutter$Fan" "areas" "[I" ∈ W0 := w0_1 (List.mem_of_getElem? (i := 28) rfl)
theorem wd_79 : Cond.lays "PieceCutter$Fan" "PieceCutter$Fan" "size" "I" ∈ W0 := w0_1 (List.mem_of_getElem? (i := 29) rfl)
theorem wd_80 : Cond.arrayClass .int ∈ W0 := w0_1 (List.mem_of_getElem? (i := 30) rfl)
theorem wd_81 : Cond.fieldLink R_PC 13 "PieceCutter" "width" "I" ∈ W0 := w0_1 (List.mem_of_getElem? (i := 31) rfl)
theorem wd_82 : Cond.fieldLink R_PC 17 "PieceCutter" "height" "I" ∈ W0 := w0_1 (List.mem_of_getElem? (i := 32) rfl)
theorem wd_83 : Cond.fieldLink R_PC 20 "PieceCutter" "focusNow" "I" ∈ W0 := w0_1 (List.mem_of_getElem? (i := 33) rfl)
theorem wd_84 : Cond.fieldLink R_PC 26 "PieceCutter" "given" "LPieceCutter$Ring;" ∈ W0 := w0_1 (List.mem_of_getElem? (i := 34) rfl)
theorem wd_85 : Cond.fieldLink R_PC 34 "PieceCutter" "kept" "LPieceCutter$Ring;" ∈ W0 := w0_1 (List.mem_of_getElem? (i := 35) rfl)
theorem wd_86 : Cond.fieldLink R_PC 37 "PieceCutter" "spare" "LPieceCutter$Ring;" ∈ W0 := w0_1 (List.mem_of_getElem? (i := 36) rfl)
theorem wd_87 : Cond.fieldLink R_PC 40 "PieceCutter" "picture" "LPieceCutter$Ring;" ∈ W0 := w0_1 (List.mem_of_getElem? (i := 37) rfl)
theorem wd_88 : Cond.fieldLink R_PC 46 "PieceCutter" "fan" "LPieceCutter$Fan;" ∈ W0 := w0_1 (List.mem_of_getElem? (i := 38) rfl)
theorem wd_89 : Cond.laysFinal "PieceCutter" "PieceCutter" "width" "I" ∈ W0 := w0_1 (List.mem_of_getElem? (i := 39) rfl)
theorem wd_90 : Cond.laysFinal "PieceCutter" "PieceCutter" "height" "I" ∈ W0 := w0_1 (List.mem_of_getElem? (i := 40) rfl)
theorem wd_91 : Cond.lays "PieceCutter" "PieceCutter" "focusNow" "I" ∈ W0 := w0_1 (List.mem_of_getElem? (i := 41) rfl)
theorem wd_92 : Cond.laysFinal "PieceCutter" "PieceCutter" "given" "LPieceCutter$Ring;" ∈ W0 := w0_1 (List.mem_of_getElem? (i := 42) rfl)
theorem wd_93 : Cond.lays "PieceCutter" "PieceCutter" "kept" "LPieceCutter$Ring;" ∈ W0 := w0_1 (List.mem_of_getElem? (i := 43) rfl)
theorem wd_94 : Cond.lays "PieceCutter" "PieceCutter" "spare" "LPieceCutter$Ring;" ∈ W0 := w0_1 (List.mem_of_getElem? (i := 44) rfl)
theorem wd_95 : Cond.laysFinal "PieceCutter" "PieceCutter" "picture" "LPieceCutter$Ring;" ∈ W0 := w0_1 (List.mem_of_getElem? (i := 45) rfl)
theorem wd_96 : Cond.laysFinal "PieceCutter" "PieceCutter" "fan" "LPieceCutter$Fan;" ∈ W0 := w0_1 (List.mem_of_getElem? (i := 46) rfl)
theorem wd_97 : Cond.methodLink R_La 21 y_PC_focus ∈ W0 := w0_1 (List.mem_of_getElem? (i := 47) rfl)
theorem wd_98 : Cond.instanceMethod y_PC_focus ∈ W0 := w0_1 (List.mem_of_getElem? (i := 48) rfl)
theorem wd_99 : Cond.selects R_PC y_PC_focus y_PC_focus ∈ W0 := w0_1 (List.mem_of_getElem? (i := 49) rfl)
theorem wd_100 : Cond.code y_PC_focus b_PC_focus 2 (some .boolean) ∈ W0 := w0_2 (List.mem_of_getElem? (i := 0) rfl)
theorem wd_101 : Cond.methodLink R_La 26 y_PC_place ∈ W0 := w0_2 (List.mem_of_getElem? (i := 1) rfl)
theorem wd_102 : Cond.instanceMethod y_PC_place ∈ W0 := w0_2 (List.mem_of_getElem? (i := 2) rfl)
theorem wd_103 : Cond.selects R_PC y_PC_place y_PC_place ∈ W0 := w0_2 (List.mem_of_getElem? (i := 3) rfl)
theorem wd_104 : Cond.code y_PC_place b_PC_place 5 (some .boolean) ∈ W0 := w0_2 (List.mem_of_getElem? (i := 4) rfl)
theorem wd_105 : Cond.instanceMethod y_Ri_has ∈ W0 := w0_2 (List.mem_of_getElem? (i := 5) rfl)
theorem wd_106 : Cond.code y_Ri_has b_Ri_has 2 (some .boolean) ∈ W0 := w0_2 (List.mem_of_getElem? (i := 6) rfl)
theorem wd_107 : Cond.methodLink R_PC 54 y_PC_isPlace ∈ W0 := w0_2 (List.mem_of_getElem? (i := 7) rfl)
theorem wd_108 : Cond.static y_PC_isPlace ∈ W0 := w0_2 (List.mem_of_getElem? (i := 8) rfl)
theorem wd_109 : Cond.code y_PC_isPlace b_PC_isPlace 1 (some .boolean) ∈ W0 := w0_2 (List.mem_of_getElem? (i := 9) rfl)
theorem wd_110 : Cond.constant R_PC 130 (-16777216) ∈ W0 := w0_2 (List.mem_of_getElem? (i := 10) rfl)
theorem wd_111 : Cond.constant R_PC 131 16777216 ∈ W0 := w0_2 (List.mem_of_getElem? (i := 11) rfl)
theorem wd_112 : Cond.instanceMethod y_Ri_put ∈ W0 := w0_2 (List.mem_of_getElem? (i := 12) rfl)
theorem wd_113 : Cond.code y_Ri_put b_Ri_put 5 none ∈ W0 := w0_2 (List.mem_of_getElem? (i := 13) rfl)
theorem wd_114 : Cond.methodLink R_Ri 19 y_Ri_has ∈ W0 := w0_2 (List.mem_of_getElem? (i := 14) rfl)
theorem wd_115 : Cond.methodLink R_La 31 y_PC_paint ∈ W0 := w0_2 (List.mem_of_getElem? (i := 15) rfl)
theorem wd_116 : Cond.instanceMethod y_PC_paint ∈ W0 := w0_2 (List.mem_of_getElem? (i := 16) rfl)
theorem wd_117 : Cond.selects R_PC y_PC_paint y_PC_paint ∈ W0 := w0_2 (List.mem_of_getElem? (i := 17) rfl)
theorem wd_118 : Cond.code y_PC_paint b_PC_paint 5 (some .boolean) ∈ W0 := w0_2 (List.mem_of_getElem? (i := 18) rfl)
theorem wd_119 : Cond.methodLink R_PC 61 y_PC_isPaint ∈ W0 := w0_2 (List.mem_of_getElem? (i := 19) rfl)
theorem wd_120 : Cond.static y_PC_isPaint ∈ W0 := w0_2 (List.mem_of_getElem? (i := 20) rfl)
theorem wd_121 : Cond.code y_PC_isPaint b_PC_isPaint 1 (some .boolean) ∈ W0 := w0_2 (List.mem_of_getElem? (i := 21) rfl)
theorem wd_122 : Cond.constant R_PC 132 (-131072) ∈ W0 := w0_2 (List.mem_of_getElem? (i := 22) rfl)
theorem wd_123 : Cond.constant R_PC 133 131072 ∈ W0 := w0_2 (List.mem_of_getElem? (i := 23) rfl)
theorem wd_124 : Cond.constant R_PC 64 65536 ∈ W0 := w0_2 (List.mem_of_getElem? (i := 24) rfl)
theorem wd_125 : Cond.methodLink R_La 35 y_PC_cut ∈ W0 := w0_2 (List.mem_of_getElem? (i := 25) rfl)
theorem wd_126 : Cond.instanceMethod y_PC_cut ∈ W0 := w0_2 (List.mem_of_getElem? (i := 26) rfl)
theorem wd_127 : Cond.selects R_PC y_PC_cut y_PC_cut ∈ W0 := w0_2 (List.mem_of_getElem? (i := 27) rfl)
theorem wd_128 : Cond.code y_PC_cut b_PC_cut 3 (some .int) ∈ W0 := w0_2 (List.mem_of_getElem? (i := 28) rfl)
theorem wd_129 : Cond.instanceMethod y_Ri_clear ∈ W0 := w0_2 (List.mem_of_getElem? (i := 29) rfl)
theorem wd_130 : Cond.code y_Ri_clear b_Ri_clear 1 none ∈ W0 := w0_2 (List.mem_of_getElem? (i := 30) rfl)
theorem wd_131 : Cond.instanceMethod y_Ri_addCopy ∈ W0 := w0_2 (List.mem_of_getElem? (i := 31) rfl)
theorem wd_132 : Cond.code y_Ri_addCopy b_Ri_addCopy 5 none ∈ W0 := w0_2 (List.mem_of_getElem? (i := 32) rfl)
theorem wd_133 : Cond.methodLink R_Ri 23 y_Ri_addRow ∈ W0 := w0_2 (List.mem_of_getElem? (i := 33) rfl)
theorem wd_134 : Cond.methodLink R_Ri 27 y_Ri_at ∈ W0 := w0_2 (List.mem_of_getElem? (i := 34) rfl)
theorem wd_135 : Cond.instanceMethod y_Ri_at ∈ W0 := w0_2 (List.mem_of_getElem? (i := 35) rfl)
theorem wd_136 : Cond.code y_Ri_at b_Ri_at 3 (some .long) ∈ W0 := w0_2 (List.mem_of_getElem? (i := 36) rfl)
theorem wd_137 : Cond.methodLink R_Ri 31 y_Ri_put ∈ W0 := w0_2 (List.mem_of_getElem? (i := 37) rfl)
theorem wd_138 : Cond.methodLink R_PC 72 y_PC_cutBySide ∈ W0 := w0_2 (List.mem_of_getElem? (i := 38) rfl)
theorem wd_139 : Cond.instanceMethod y_PC_cutBySide ∈ W0 := w0_2 (List.mem_of_getElem? (i := 39) rfl)
theorem wd_140 : Cond.code y_PC_cutBySide b_PC_cutBySide 6 none ∈ W0 := w0_2 (List.mem_of_getElem? (i := 40) rfl)
theorem wd_141 : Cond.methodLink R_PC 138 y_PC_sideNumber ∈ W0 := w0_2 (List.mem_of_getElem? (i := 41) rfl)
theorem wd_142 : Cond.instanceMethod y_PC_sideNumber ∈ W0 := w0_2 (List.mem_of_getElem? (i := 42) rfl)
theorem wd_143 : Cond.code y_PC_sideNumber b_PC_sideNumber 9 (some .long) ∈ W0 := w0_2 (List.mem_of_getElem? (i := 43) rfl)
theorem wd_144 : Cond.constantLong R_PC 145 4096 ∈ W0 := w0_2 (List.mem_of_getElem? (i := 44) rfl)
theorem wd_145 : Cond.methodLink R_PC 141 y_PC_addBetween ∈ W0 := w0_2 (List.mem_of_getElem? (i := 45) rfl)
theorem wd_146 : Cond.instanceMethod y_PC_addBetween ∈ W0 := w0_2 (List.mem_of_getElem? (i := 46) rfl)
theorem wd_147 : Cond.code y_PC_addBetween b_PC_addBetween 14 none ∈ W0 := w0_2 (List.mem_of_getElem? (i := 47) rfl)
theorem wd_148 : Cond.methodLink R_PC 110 y_PC_div ∈ W0 := w0_2 (List.mem_of_getElem? (i := 48) rfl)
theorem wd_149 : Cond.static y_PC_div ∈ W0 := w0_2 (List.mem_of_getElem? (i := 49) rfl)
theorem wd_150 : Cond.code y_PC_div b_PC_div 4 (some .long) ∈ W0 := w0_3 (List.mem_of_getElem? (i := 0) rfl)
theorem wd_151 : Cond.methodLink R_PC 134 y_Ma_floorDiv ∈ W0 := w0_3 (List.mem_of_getElem? (i := 1) rfl)
theorem wd_152 : Cond.static y_Ma_floorDiv ∈ W0 := w0_3 (List.mem_of_getElem? (i := 2) rfl)
theorem wd_153 : Cond.code y_Ma_floorDiv b_Ma_floorDiv 6 (some .long) ∈ W0 := w0_3 (List.mem_of_getElem? (i := 3) rfl)
theorem wd_154 : Cond.methodLink R_PC 76 y_PC_layOnPicture ∈ W0 := w0_3 (List.mem_of_getElem? (i := 4) rfl)
theorem wd_155 : Cond.instanceMethod y_PC_layOnPicture ∈ W0 := w0_3 (List.mem_of_getElem? (i := 5) rfl)
theorem wd_156 : Cond.code y_PC_layOnPicture b_PC_layOnPicture 4 none ∈ W0 := w0_3 (List.mem_of_getElem? (i := 6) rfl)
theorem wd_157 : Cond.constantLong R_PC 147 16 ∈ W0 := w0_3 (List.mem_of_getElem? (i := 7) rfl)
theorem wd_158 : Cond.constantLong R_PC 149 8 ∈ W0 := w0_3 (List.mem_of_getElem? (i := 8) rfl)
theorem wd_159 : Cond.constantLong R_PC 151 4294967296 ∈ W0 := w0_3 (List.mem_of_getElem? (i := 9) rfl)
theorem wd_160 : Cond.methodLink R_PC 79 y_PC_divide ∈ W0 := w0_3 (List.mem_of_getElem? (i := 10) rfl)
theorem wd_161 : Cond.instanceMethod y_PC_divide ∈ W0 := w0_3 (List.mem_of_getElem? (i := 11) rfl)
theorem wd_162 : Cond.code y_PC_divide b_PC_divide 5 none ∈ W0 := w0_3 (List.mem_of_getElem? (i := 12) rfl)
theorem wd_163 : Cond.instanceMethod y_Fa_clear ∈ W0 := w0_3 (List.mem_of_getElem? (i := 13) rfl)
theorem wd_164 : Cond.code y_Fa_clear b_Fa_clear 1 none ∈ W0 := w0_3 (List.mem_of_getElem? (i := 14) rfl)
theorem wd_165 : Cond.methodLink R_PC 154 y_PC_areaWith ∈ W0 := w0_3 (List.mem_of_getElem? (i := 15) rfl)
theorem wd_166 : Cond.instanceMethod y_PC_areaWith ∈ W0 := w0_3 (List.mem_of_getElem? (i := 16) rfl)
theorem wd_167 : Cond.code y_PC_areaWith b_PC_areaWith 7 (some .long) ∈ W0 := w0_3 (List.mem_of_getElem? (i := 17) rfl)
theorem wd_168 : Cond.instanceMethod y_Fa_add ∈ W0 := w0_3 (List.mem_of_getElem? (i := 18) rfl)
theorem wd_169 : Cond.code y_Fa_add b_Fa_add 5 none ∈ W0 := w0_3 (List.mem_of_getElem? (i := 19) rfl)
theorem wd_170 : Cond.methodLink R_La 40 y_PC_piece ∈ W0 := w0_3 (List.mem_of_getElem? (i := 20) rfl)
theorem wd_171 : Cond.instanceMethod y_PC_piece ∈ W0 := w0_3 (List.mem_of_getElem? (i := 21) rfl)
theorem wd_172 : Cond.selects R_PC y_PC_piece y_PC_piece ∈ W0 := w0_3 (List.mem_of_getElem? (i := 22) rfl)
theorem wd_173 : Cond.code y_PC_piece b_PC_piece 4 (some .int) ∈ W0 := w0_3 (List.mem_of_getElem? (i := 23) rfl)
theorem wd_174 : Cond.instanceMethod y_Fa_corner ∈ W0 := w0_3 (List.mem_of_getElem? (i := 24) rfl)
theorem wd_175 : Cond.code y_Fa_corner b_Fa_corner 3 (some .int) ∈ W0 := w0_3 (List.mem_of_getElem? (i := 25) rfl)
theorem wd_176 : Cond.methodLink R_Fa 25 y_Fa_has ∈ W0 := w0_3 (List.mem_of_getElem? (i := 26) rfl)
theorem wd_177 : Cond.instanceMethod y_Fa_has ∈ W0 := w0_3 (List.mem_of_getElem? (i := 27) rfl)
theorem wd_178 : Cond.code y_Fa_has b_Fa_has 2 (some .boolean) ∈ W0 := w0_3 (List.mem_of_getElem? (i := 28) rfl)
theorem wd_179 : Cond.methodLink R_La 45 y_PC_area ∈ W0 := w0_3 (List.mem_of_getElem? (i := 29) rfl)
theorem wd_180 : Cond.instanceMethod y_PC_area ∈ W0 := w0_3 (List.mem_of_getElem? (i := 30) rfl)
theorem wd_181 : Cond.selects R_PC y_PC_area y_PC_area ∈ W0 := w0_3 (List.mem_of_getElem? (i := 31) rfl)
theorem wd_182 : Cond.code y_PC_area b_PC_area 2 (some .int) ∈ W0 := w0_3 (List.mem_of_getElem? (i := 32) rfl)
theorem wd_183 : Cond.methodLink R_La 50 y_PC_first ∈ W0 := w0_3 (List.mem_of_getElem? (i := 33) rfl)
theorem wd_184 : Cond.instanceMethod y_PC_first ∈ W0 := w0_3 (List.mem_of_getElem? (i := 34) rfl)
theorem wd_185 : Cond.selects R_PC y_PC_first y_PC_first ∈ W0 := w0_3 (List.mem_of_getElem? (i := 35) rfl)
theorem wd_186 : Cond.code y_PC_first b_PC_first 4 (some .int) ∈ W0 := w0_3 (List.mem_of_getElem? (i := 36) rfl)
theorem wd_187 : Cond.methodLink R_PC 99 y_PC_covers ∈ W0 := w0_3 (List.mem_of_getElem? (i := 37) rfl)
theorem wd_188 : Cond.instanceMethod y_PC_covers ∈ W0 := w0_3 (List.mem_of_getElem? (i := 38) rfl)
theorem wd_189 : Cond.code y_PC_covers b_PC_covers 5 (some .boolean) ∈ W0 := w0_3 (List.mem_of_getElem? (i := 39) rfl)
theorem wd_190 : Cond.methodLink R_PC 118 y_PC_isPixel ∈ W0 := w0_3 (List.mem_of_getElem? (i := 40) rfl)
theorem wd_191 : Cond.instanceMethod y_PC_isPixel ∈ W0 := w0_3 (List.mem_of_getElem? (i := 41) rfl)
theorem wd_192 : Cond.code y_PC_isPixel b_PC_isPixel 3 (some .boolean) ∈ W0 := w0_3 (List.mem_of_getElem? (i := 42) rfl)
theorem wd_193 : Cond.methodLink R_PC 160 y_PC_isInside ∈ W0 := w0_3 (List.mem_of_getElem? (i := 43) rfl)
theorem wd_194 : Cond.instanceMethod y_PC_isInside ∈ W0 := w0_3 (List.mem_of_getElem? (i := 44) rfl)
theorem wd_195 : Cond.code y_PC_isInside b_PC_isInside 11 (some .boolean) ∈ W0 := w0_3 (List.mem_of_getElem? (i := 45) rfl)
theorem wd_196 : Cond.methodLink R_PC 164 y_PC_edgeNumber ∈ W0 := w0_3 (List.mem_of_getElem? (i := 46) rfl)
theorem wd_197 : Cond.instanceMethod y_PC_edgeNumber ∈ W0 := w0_3 (List.mem_of_getElem? (i := 47) rfl)
theorem wd_198 : Cond.code y_PC_edgeNumber b_PC_edgeNumber 11 (some .long) ∈ W0 := w0_3 (List.mem_of_getElem? (i := 48) rfl)
theorem wd_199 : Cond.methodLink R_PC 167 y_PC_cornerAfter ∈ W0 := w0_3 (List.mem_of_getElem? (i := 49) rfl)
theorem wd_200 : Cond.static y_PC_cornerAfter ∈ W0 := w0_4 (List.mem_of_getElem? (i := 0) rfl)
theorem wd_201 : Cond.code y_PC_cornerAfter b_PC_cornerAfter 1 (some .int) ∈ W0 := w0_4 (List.mem_of_getElem? (i := 1) rfl)
theorem wd_202 : Cond.methodLink R_PC 170 y_PC_middle ∈ W0 := w0_4 (List.mem_of_getElem? (i := 2) rfl)
theorem wd_203 : Cond.static y_PC_middle ∈ W0 := w0_4 (List.mem_of_getElem? (i := 3) rfl)
theorem wd_204 : Cond.code y_PC_middle b_PC_middle 1 (some .long) ∈ W0 := w0_4 (List.mem_of_getElem? (i := 4) rfl)
theorem wd_205 : Cond.methodLink R_La 55 y_PC_last ∈ W0 := w0_4 (List.mem_of_getElem? (i := 5) rfl)
theorem wd_206 : Cond.instanceMethod y_PC_last ∈ W0 := w0_4 (List.mem_of_getElem? (i := 6) rfl)
theorem wd_207 : Cond.selects R_PC y_PC_last y_PC_last ∈ W0 := w0_4 (List.mem_of_getElem? (i := 7) rfl)
theorem wd_208 : Cond.code y_PC_last b_PC_last 4 (some .int) ∈ W0 := w0_4 (List.mem_of_getElem? (i := 8) rfl)
theorem wd_209 : Cond.methodLink R_La 59 y_PC_near ∈ W0 := w0_4 (List.mem_of_getElem? (i := 9) rfl)
theorem wd_210 : Cond.instanceMethod y_PC_near ∈ W0 := w0_4 (List.mem_of_getElem? (i := 10) rfl)
theorem wd_211 : Cond.selects R_PC y_PC_near y_PC_near ∈ W0 := w0_4 (List.mem_of_getElem? (i := 11) rfl)
theorem wd_212 : Cond.code y_PC_near b_PC_near 4 (some .int) ∈ W0 := w0_4 (List.mem_of_getElem? (i := 12) rfl)
theorem wd_213 : Cond.methodLink R_PC 103 y_PC_weightSum ∈ W0 := w0_4 (List.mem_of_getElem? (i := 13) rfl)
theorem wd_214 : Cond.instanceMethod y_PC_weightSum ∈ W0 := w0_4 (List.mem_of_getElem? (i := 14) rfl)
theorem wd_215 : Cond.code y_PC_weightSum b_PC_weightSum 4 (some .long) ∈ W0 := w0_4 (List.mem_of_getElem? (i := 15) rfl)
theorem wd_216 : Cond.methodLink R_PC 114 y_PC_weight ∈ W0 := w0_4 (List.mem_of_getElem? (i := 16) rfl)
theorem wd_217 : Cond.instanceMethod y_PC_weight ∈ W0 := w0_4 (List.mem_of_getElem? (i := 17) rfl)
theorem wd_218 : Cond.code y_PC_weight b_PC_weight 5 (some .long) ∈ W0 := w0_4 (List.mem_of_getElem? (i := 18) rfl)
theorem wd_219 : Cond.methodLink R_PC 107 y_PC_area ∈ W0 := w0_4 (List.mem_of_getElem? (i := 19) rfl)
theorem wd_220 : Cond.methodLink R_La 63 y_PC_number ∈ W0 := w0_4 (List.mem_of_getElem? (i := 20) rfl)
theorem wd_221 : Cond.instanceMethod y_PC_number ∈ W0 := w0_4 (List.mem_of_getElem? (i := 21) rfl)
theorem wd_222 : Cond.selects R_PC y_PC_number y_PC_number ∈ W0 := w0_4 (List.mem_of_getElem? (i := 22) rfl)
theorem wd_223 : Cond.code y_PC_number b_PC_number 8 (some .int) ∈ W0 := w0_4 (List.mem_of_getElem? (i := 23) rfl)
theorem wd_224 : Cond.methodLink R_La 68 y_PC_covered ∈ W0 := w0_4 (List.mem_of_getElem? (i := 24) rfl)
theorem wd_225 : Cond.instanceMethod y_PC_covered ∈ W0 := w0_4 (List.mem_of_getElem? (i := 25) rfl)
theorem wd_226 : Cond.selects R_PC y_PC_covered y_PC_covered ∈ W0 := w0_4 (List.mem_of_getElem? (i := 26) rfl)
theorem wd_227 : Cond.code y_PC_covered b_PC_covered 5 (some .int) ∈ W0 := w0_4 (List.mem_of_getElem? (i := 27) rfl)
theorem wd_228 : Cond.methodLink R_La 9 y_La_cell ∈ W0 := w0_4 (List.mem_of_getElem? (i := 28) rfl)
theorem wd_229 : Cond.static y_La_cell ∈ W0 := w0_4 (List.mem_of_getElem? (i := 29) rfl)
theorem wd_230 : Cond.code y_La_cell b_La_cell 2 (some .int) ∈ W0 := w0_4 (List.mem_of_getElem? (i := 30) rfl)
theorem wd_231 : Cond.classLink R_La 18 R_Mo ∈ W0 := w0_4 (List.mem_of_getElem? (i := 31) rfl)
theorem wd_232 : Cond.instantiable R_Mo 12 ∈ W0 := w0_4 (List.mem_of_getElem? (i := 32) rfl)
theorem wd_233 : Cond.methodLink R_La 20 y_Mo_init ∈ W0 := w0_4 (List.mem_of_getElem? (i := 33) rfl)
theorem wd_234 : Cond.instanceMethod y_Mo_init ∈ W0 := w0_4 (List.mem_of_getElem? (i := 34) rfl)
theorem wd_235 : Cond.code y_Mo_init b_Mo_init 3 none ∈ W0 := w0_4 (List.mem_of_getElem? (i := 35) rfl)
theorem wd_236 : Cond.methodLink R_Mo 1 objectInit ∈ W0 := w0_4 (List.mem_of_getElem? (i := 36) rfl)
theorem wd_237 : Cond.fieldLink R_Mo 35 "PieceCutterModel" "thrown" "I" ∈ W0 := w0_4 (List.mem_of_getElem? (i := 37) rfl)
theorem wd_238 : Cond.fieldLink R_Mo 29 "PieceCutterModel" "width" "I" ∈ W0 := w0_4 (List.mem_of_getElem? (i := 38) rfl)
theorem wd_239 : Cond.fieldLink R_Mo 32 "PieceCutterModel" "height" "I" ∈ W0 := w0_4 (List.mem_of_getElem? (i := 39) rfl)
theorem wd_240 : Cond.fieldLink R_Mo 7 "PieceCutterModel" "focus" "I" ∈ W0 := w0_4 (List.mem_of_getElem? (i := 40) rfl)
theorem wd_241 : Cond.fieldLink R_Mo 13 "PieceCutterModel" "text" "[J" ∈ W0 := w0_4 (List.mem_of_getElem? (i := 41) rfl)
theorem wd_242 : Cond.fieldLink R_Mo 17 "PieceCutterModel" "row" "[J" ∈ W0 := w0_4 (List.mem_of_getElem? (i := 42) rfl)
theorem wd_243 : Cond.fieldLink R_Mo 60 "PieceCutterModel" "many" "I" ∈ W0 := w0_4 (List.mem_of_getElem? (i := 43) rfl)
theorem wd_244 : Cond.fieldLink R_Mo 20 "PieceCutterModel" "next" "[J" ∈ W0 := w0_4 (List.mem_of_getElem? (i := 44) rfl)
theorem wd_245 : Cond.fieldLink R_Mo 53 "PieceCutterModel" "nexts" "I" ∈ W0 := w0_4 (List.mem_of_getElem? (i := 45) rfl)
theorem wd_246 : Cond.fieldLink R_Mo 23 "PieceCutterModel" "pieces" "[J" ∈ W0 := w0_4 (List.mem_of_getElem? (i := 46) rfl)
theorem wd_247 : Cond.fieldLink R_Mo 26 "PieceCutterModel" "areas" "[J" ∈ W0 := w0_4 (List.mem_of_getElem? (i := 47) rfl)
theorem wd_248 : Cond.fieldLink R_Mo 81 "PieceCutterModel" "count" "I" ∈ W0 := w0_4 (List.mem_of_getElem? (i := 48) rfl)
theorem wd_249 : Cond.lays "PieceCutterModel" "PieceCutterModel" "thrown" "I" ∈ W0 := w0_4 (List.mem_of_getElem? (i := 49) rfl)
theorem wd_250 : Cond.laysFinal "PieceCutterModel" "PieceCutterModel" "width" "I" ∈ W0 := w0_5 (List.mem_of_getElem? (i := 0) rfl)
theorem wd_251 : Cond.laysFinal "PieceCutterModel" "PieceCutterModel" "height" "I" ∈ W0 := w0_5 (List.mem_of_getElem? (i := 1) rfl)
theorem wd_252 : Cond.lays "PieceCutterModel" "PieceCutterModel" "focus" "I" ∈ W0 := w0_5 (List.mem_of_getElem? (i := 2) rfl)
theorem wd_253 : Cond.laysFinal "PieceCutterModel" "PieceCutterModel" "text" "[J" ∈ W0 := w0_5 (List.mem_of_getElem? (i := 3) rfl)
theorem wd_254 : Cond.lays "PieceCutterModel" "PieceCutterModel" "row" "[J" ∈ W0 := w0_5 (List.mem_of_getElem? (i := 4) rfl)
theorem wd_255 : Cond.lays "PieceCutterModel" "PieceCutterModel" "many" "I" ∈ W0 := w0_5 (List.mem_of_getElem? (i := 5) rfl)
theorem wd_256 : Cond.lays "PieceCutterModel" "PieceCutterModel" "next" "[J" ∈ W0 := w0_5 (List.mem_of_getElem? (i := 6) rfl)
theorem wd_257 : Cond.lays "PieceCutterModel" "PieceCutterModel" "nexts" "I" ∈ W0 := w0_5 (List.mem_of_getElem? (i := 7) rfl)
theorem wd_258 : Cond.laysFinal "PieceCutterModel" "PieceCutterModel" "pieces" "[J" ∈ W0 := w0_5 (List.mem_of_getElem? (i := 8) rfl)
theorem wd_259 : Cond.laysFinal "PieceCutterModel" "PieceCutterModel" "areas" "[J" ∈ W0 := w0_5 (List.mem_of_getElem? (i := 9) rfl)
theorem wd_260 : Cond.lays "PieceCutterModel" "PieceCutterModel" "count" "I" ∈ W0 := w0_5 (List.mem_of_getElem? (i := 10) rfl)
theorem wd_261 : Cond.methodLink R_La 25 y_Mo_focus ∈ W0 := w0_5 (List.mem_of_getElem? (i := 11) rfl)
theorem wd_262 : Cond.instanceMethod y_Mo_focus ∈ W0 := w0_5 (List.mem_of_getElem? (i := 12) rfl)
theorem wd_263 : Cond.selects R_Mo y_Mo_focus y_Mo_focus ∈ W0 := w0_5 (List.mem_of_getElem? (i := 13) rfl)
theorem wd_264 : Cond.code y_Mo_focus b_Mo_focus 2 (some .boolean) ∈ W0 := w0_5 (List.mem_of_getElem? (i := 14) rfl)
theorem wd_265 : Cond.methodLink R_Mo 38 y_Mo_within ∈ W0 := w0_5 (List.mem_of_getElem? (i := 15) rfl)
theorem wd_266 : Cond.static y_Mo_within ∈ W0 := w0_5 (List.mem_of_getElem? (i := 16) rfl)
theorem wd_267 : Cond.code y_Mo_within b_Mo_within 3 (some .boolean) ∈ W0 := w0_5 (List.mem_of_getElem? (i := 17) rfl)
theorem wd_268 : Cond.methodLink R_La 30 y_Mo_place ∈ W0 := w0_5 (List.mem_of_getElem? (i := 18) rfl)
theorem wd_269 : Cond.instanceMethod y_Mo_place ∈ W0 := w0_5 (List.mem_of_getElem? (i := 19) rfl)
theorem wd_270 : Cond.selects R_Mo y_Mo_place y_Mo_place ∈ W0 := w0_5 (List.mem_of_getElem? (i := 20) rfl)
theorem wd_271 : Cond.code y_Mo_place b_Mo_place 5 (some .boolean) ∈ W0 := w0_5 (List.mem_of_getElem? (i := 21) rfl)
theorem wd_272 : Cond.methodLink R_Mo 44 y_Mo_far ∈ W0 := w0_5 (List.mem_of_getElem? (i := 22) rfl)
theorem wd_273 : Cond.static y_Mo_far ∈ W0 := w0_5 (List.mem_of_getElem? (i := 23) rfl)
theorem wd_274 : Cond.code y_Mo_far b_Mo_far 1 (some .boolean) ∈ W0 := w0_5 (List.mem_of_getElem? (i := 24) rfl)
theorem wd_275 : Cond.constant R_Mo 42 (-16777216) ∈ W0 := w0_5 (List.mem_of_getElem? (i := 25) rfl)
theorem wd_276 : Cond.constant R_Mo 43 16777216 ∈ W0 := w0_5 (List.mem_of_getElem? (i := 26) rfl)
theorem wd_277 : Cond.methodLink R_La 34 y_Mo_paint ∈ W0 := w0_5 (List.mem_of_getElem? (i := 27) rfl)
theorem wd_278 : Cond.instanceMethod y_Mo_paint ∈ W0 := w0_5 (List.mem_of_getElem? (i := 28) rfl)
theorem wd_279 : Cond.selects R_Mo y_Mo_paint y_Mo_paint ∈ W0 := w0_5 (List.mem_of_getElem? (i := 29) rfl)
theorem wd_280 : Cond.code y_Mo_paint b_Mo_paint 5 (some .boolean) ∈ W0 := w0_5 (List.mem_of_getElem? (i := 30) rfl)
theorem wd_281 : Cond.constant R_Mo 48 (-131072) ∈ W0 := w0_5 (List.mem_of_getElem? (i := 31) rfl)
theorem wd_282 : Cond.constant R_Mo 49 131072 ∈ W0 := w0_5 (List.mem_of_getElem? (i := 32) rfl)
theorem wd_283 : Cond.constant R_Mo 50 65536 ∈ W0 := w0_5 (List.mem_of_getElem? (i := 33) rfl)
theorem wd_284 : Cond.methodLink R_La 39 y_Mo_cut ∈ W0 := w0_5 (List.mem_of_getElem? (i := 34) rfl)
theorem wd_285 : Cond.instanceMethod y_Mo_cut ∈ W0 := w0_5 (List.mem_of_getElem? (i := 35) rfl)
theorem wd_286 : Cond.selects R_Mo y_Mo_cut y_Mo_cut ∈ W0 := w0_5 (List.mem_of_getElem? (i := 36) rfl)
theorem wd_287 : Cond.code y_Mo_cut b_Mo_cut 3 (some .int) ∈ W0 := w0_5 (List.mem_of_getElem? (i := 37) rfl)
theorem wd_288 : Cond.methodLink R_Mo 77 y_Mo_cutBy ∈ W0 := w0_5 (List.mem_of_getElem? (i := 38) rfl)
theorem wd_289 : Cond.instanceMethod y_Mo_cutBy ∈ W0 := w0_5 (List.mem_of_getElem? (i := 39) rfl)
theorem wd_290 : Cond.code y_Mo_cutBy b_Mo_cutBy 9 none ∈ W0 := w0_5 (List.mem_of_getElem? (i := 40) rfl)
theorem wd_291 : Cond.methodLink R_Mo 63 y_Mo_number2 ∈ W0 := w0_5 (List.mem_of_getElem? (i := 41) rfl)
theorem wd_292 : Cond.instanceMethod y_Mo_number2 ∈ W0 := w0_5 (List.mem_of_getElem? (i := 42) rfl)
theorem wd_293 : Cond.code y_Mo_number2 b_Mo_number2 9 (some .long) ∈ W0 := w0_5 (List.mem_of_getElem? (i := 43) rfl)
theorem wd_294 : Cond.constantLong R_Mo 51 4096 ∈ W0 := w0_5 (List.mem_of_getElem? (i := 44) rfl)
theorem wd_295 : Cond.methodLink R_Mo 67 y_Mo_between ∈ W0 := w0_5 (List.mem_of_getElem? (i := 45) rfl)
theorem wd_296 : Cond.instanceMethod y_Mo_between ∈ W0 := w0_5 (List.mem_of_getElem? (i := 46) rfl)
theorem wd_297 : Cond.code y_Mo_between b_Mo_between 8 none ∈ W0 := w0_5 (List.mem_of_getElem? (i := 47) rfl)
theorem wd_298 : Cond.methodLink R_Mo 56 y_Mo_div ∈ W0 := w0_5 (List.mem_of_getElem? (i := 48) rfl)
theorem wd_299 : Cond.static y_Mo_div ∈ W0 := w0_5 (List.mem_of_getElem? (i := 49) rfl)
theorem wd_300 : Cond.code y_Mo_div b_Mo_div 6 (some .long) ∈ W0 := w0_6 (List.mem_of_getElem? (i := 0) rfl)
theorem wd_301 : Cond.methodLink R_Mo 84 y_Mo_lay ∈ W0 := w0_6 (List.mem_of_getElem? (i := 1) rfl)
theorem wd_302 : Cond.instanceMethod y_Mo_lay ∈ W0 := w0_6 (List.mem_of_getElem? (i := 2) rfl)
theorem wd_303 : Cond.code y_Mo_lay b_Mo_lay 8 none ∈ W0 := w0_6 (List.mem_of_getElem? (i := 3) rfl)
theorem wd_304 : Cond.constantLong R_Mo 71 16 ∈ W0 := w0_6 (List.mem_of_getElem? (i := 4) rfl)
theorem wd_305 : Cond.constantLong R_Mo 73 8 ∈ W0 := w0_6 (List.mem_of_getElem? (i := 5) rfl)
theorem wd_306 : Cond.constantLong R_Mo 75 4294967296 ∈ W0 := w0_6 (List.mem_of_getElem? (i := 6) rfl)
theorem wd_307 : Cond.methodLink R_Mo 88 y_Mo_areaOf ∈ W0 := w0_6 (List.mem_of_getElem? (i := 7) rfl)
theorem wd_308 : Cond.instanceMethod y_Mo_areaOf ∈ W0 := w0_6 (List.mem_of_getElem? (i := 8) rfl)
theorem wd_309 : Cond.code y_Mo_areaOf b_Mo_areaOf 3 (some .long) ∈ W0 := w0_6 (List.mem_of_getElem? (i := 9) rfl)
theorem wd_310 : Cond.methodLink R_La 44 y_Mo_piece ∈ W0 := w0_6 (List.mem_of_getElem? (i := 10) rfl)
theorem wd_311 : Cond.instanceMethod y_Mo_piece ∈ W0 := w0_6 (List.mem_of_getElem? (i := 11) rfl)
theorem wd_312 : Cond.selects R_Mo y_Mo_piece y_Mo_piece ∈ W0 := w0_6 (List.mem_of_getElem? (i := 12) rfl)
theorem wd_313 : Cond.code y_Mo_piece b_Mo_piece 4 (some .int) ∈ W0 := w0_6 (List.mem_of_getElem? (i := 13) rfl)
theorem wd_314 : Cond.methodLink R_La 49 y_Mo_area ∈ W0 := w0_6 (List.mem_of_getElem? (i := 14) rfl)
theorem wd_315 : Cond.instanceMethod y_Mo_area ∈ W0 := w0_6 (List.mem_of_getElem? (i := 15) rfl)
theorem wd_316 : Cond.selects R_Mo y_Mo_area y_Mo_area ∈ W0 := w0_6 (List.mem_of_getElem? (i := 16) rfl)
theorem wd_317 : Cond.code y_Mo_area b_Mo_area 2 (some .int) ∈ W0 := w0_6 (List.mem_of_getElem? (i := 17) rfl)
theorem wd_318 : Cond.methodLink R_La 54 y_Mo_first ∈ W0 := w0_6 (List.mem_of_getElem? (i := 18) rfl)
theorem wd_319 : Cond.instanceMethod y_Mo_first ∈ W0 := w0_6 (List.mem_of_getElem? (i := 19) rfl)
theorem wd_320 : Cond.selects R_Mo y_Mo_first y_Mo_first ∈ W0 := w0_6 (List.mem_of_getElem? (i := 20) rfl)
theorem wd_321 : Cond.code y_Mo_first b_Mo_first 4 (some .int) ∈ W0 := w0_6 (List.mem_of_getElem? (i := 21) rfl)
theorem wd_322 : Cond.methodLink R_Mo 104 y_Mo_covers ∈ W0 := w0_6 (List.mem_of_getElem? (i := 22) rfl)
theorem wd_323 : Cond.instanceMethod y_Mo_covers ∈ W0 := w0_6 (List.mem_of_getElem? (i := 23) rfl)
theorem wd_324 : Cond.code y_Mo_covers b_Mo_covers 4 (some .boolean) ∈ W0 := w0_6 (List.mem_of_getElem? (i := 24) rfl)
theorem wd_325 : Cond.methodLink R_Mo 96 y_Mo_isPixel ∈ W0 := w0_6 (List.mem_of_getElem? (i := 25) rfl)
theorem wd_326 : Cond.instanceMethod y_Mo_isPixel ∈ W0 := w0_6 (List.mem_of_getElem? (i := 26) rfl)
theorem wd_327 : Cond.code y_Mo_isPixel b_Mo_isPixel 3 (some .boolean) ∈ W0 := w0_6 (List.mem_of_getElem? (i := 27) rfl)
theorem wd_328 : Cond.methodLink R_Mo 100 y_Mo_owns ∈ W0 := w0_6 (List.mem_of_getElem? (i := 28) rfl)
theorem wd_329 : Cond.instanceMethod y_Mo_owns ∈ W0 := w0_6 (List.mem_of_getElem? (i := 29) rfl)
theorem wd_330 : Cond.code y_Mo_owns b_Mo_owns 10 (some .boolean) ∈ W0 := w0_6 (List.mem_of_getElem? (i := 30) rfl)
theorem wd_331 : Cond.methodLink R_Mo 92 y_Mo_edge ∈ W0 := w0_6 (List.mem_of_getElem? (i := 31) rfl)
theorem wd_332 : Cond.instanceMethod y_Mo_edge ∈ W0 := w0_6 (List.mem_of_getElem? (i := 32) rfl)
theorem wd_333 : Cond.code y_Mo_edge b_Mo_edge 8 (some .long) ∈ W0 := w0_6 (List.mem_of_getElem? (i := 33) rfl)
theorem wd_334 : Cond.methodLink R_La 58 y_Mo_last ∈ W0 := w0_6 (List.mem_of_getElem? (i := 34) rfl)
theorem wd_335 : Cond.instanceMethod y_Mo_last ∈ W0 := w0_6 (List.mem_of_getElem? (i := 35) rfl)
theorem wd_336 : Cond.selects R_Mo y_Mo_last y_Mo_last ∈ W0 := w0_6 (List.mem_of_getElem? (i := 36) rfl)
theorem wd_337 : Cond.code y_Mo_last b_Mo_last 4 (some .int) ∈ W0 := w0_6 (List.mem_of_getElem? (i := 37) rfl)
theorem wd_338 : Cond.methodLink R_La 62 y_Mo_near ∈ W0 := w0_6 (List.mem_of_getElem? (i := 38) rfl)
theorem wd_339 : Cond.instanceMethod y_Mo_near ∈ W0 := w0_6 (List.mem_of_getElem? (i := 39) rfl)
theorem wd_340 : Cond.selects R_Mo y_Mo_near y_Mo_near ∈ W0 := w0_6 (List.mem_of_getElem? (i := 40) rfl)
theorem wd_341 : Cond.code y_Mo_near b_Mo_near 4 (some .int) ∈ W0 := w0_6 (List.mem_of_getElem? (i := 41) rfl)
theorem wd_342 : Cond.methodLink R_Mo 107 y_Mo_weight ∈ W0 := w0_6 (List.mem_of_getElem? (i := 42) rfl)
theorem wd_343 : Cond.instanceMethod y_Mo_weight ∈ W0 := w0_6 (List.mem_of_getElem? (i := 43) rfl)
theorem wd_344 : Cond.code y_Mo_weight b_Mo_weight 5 (some .long) ∈ W0 := w0_6 (List.mem_of_getElem? (i := 44) rfl)
theorem wd_345 : Cond.methodLink R_La 67 y_Mo_number ∈ W0 := w0_6 (List.mem_of_getElem? (i := 45) rfl)
theorem wd_346 : Cond.instanceMethod y_Mo_number ∈ W0 := w0_6 (List.mem_of_getElem? (i := 46) rfl)
theorem wd_347 : Cond.selects R_Mo y_Mo_number y_Mo_number ∈ W0 := w0_6 (List.mem_of_getElem? (i := 47) rfl)
theorem wd_348 : Cond.code y_Mo_number b_Mo_number 10 (some .int) ∈ W0 := w0_6 (List.mem_of_getElem? (i := 48) rfl)
theorem wd_349 : Cond.methodLink R_La 71 y_Mo_covered ∈ W0 := w0_6 (List.mem_of_getElem? (i := 49) rfl)
theorem wd_350 : Cond.instanceMethod y_Mo_covered ∈ W0 := w0_7 (List.mem_of_getElem? (i := 0) rfl)
theorem wd_351 : Cond.selects R_Mo y_Mo_covered y_Mo_covered ∈ W0 := w0_7 (List.mem_of_getElem? (i := 1) rfl)
theorem wd_352 : Cond.code y_Mo_covered b_Mo_covered 5 (some .int) ∈ W0 := w0_7 (List.mem_of_getElem? (i := 2) rfl)
theorem w0c_all {P : Cond → Prop} (h0 : ∀ w ∈ W0_0, P w) (h1 : ∀ w ∈ W0_1, P w) (h2 : ∀ w ∈ W0_2, P w) (h3 : ∀ w ∈ W0_3, P w) (h4 : ∀ w ∈ W0_4, P w) (h5 : ∀ w ∈ W0_5, P w) (h6 : ∀ w ∈ W0_6, P w) (h7 : ∀ w ∈ W0_7, P w) : ∀ w ∈ W0, P w := by
  intro w h
  unfold W0 at h
  simp only [List.mem_append] at h
  rcases h with h | h | h | h | h | h | h | h
  · exact h0 w h
  · exact h1 w h
  · exact h2 w h
  · exact h3 w h
  · exact h4 w h
  · exact h5 w h
  · exact h6 w h
  · exact h7 w h
theorem w0p {A : List Cond} {ps : List Nat} (e : A = ps.filterMap (fun i => lw_tbl[i]?)) : ∀ w ∈ A, w ∈ lw_tbl := by
  intro w h
  rw [e] at h
  obtain ⟨i, -, hi⟩ := List.mem_filterMap.mp h
  exact List.mem_of_getElem? hi
theorem W0_in : ∀ w ∈ W0, w ∈ lw_tbl := w0c_all (w0p w0i_0) (w0p w0i_1) (w0p w0i_2) (w0p w0i_3) (w0p w0i_4) (w0p w0i_5) (w0p w0i_6) (w0p w0i_7)
theorem W0_good : ∀ w ∈ W0, (w.onTables && w.keeps) = true ∨ ∃ ty, w = .arrayClass ty := w0c_all (fun w h => good_of_word (List.all_eq_true.mp w0g_0 w h)) (fun w h => good_of_word (List.all_eq_true.mp w0g_1 w h)) (fun w h => good_of_word (List.all_eq_true.mp w0g_2 w h)) (fun w h => good_of_word (List.all_eq_true.mp w0g_3 w h)) (fun w h => good_of_word (List.all_eq_true.mp w0g_4 w h)) (fun w h => good_of_word (List.all_eq_true.mp w0g_5 w h)) (fun w h => good_of_word (List.all_eq_true.mp w0g_6 w h)) (fun w h => good_of_word (List.all_eq_true.mp w0g_7 w h))
theorem i_PC : ∀ w ∈ u_ws R_PC F_PC 8, w ∈ W0 := by decide +kernel
theorem i_Ri : ∀ w ∈ u_ws R_Ri F_Ri 2, w ∈ W0 := by decide +kernel
theorem i_Fa : ∀ w ∈ u_ws R_Fa F_Fa 4, w ∈ W0 := by decide +kernel
theorem i_Mo : ∀ w ∈ u_ws R_Mo F_Mo 12, w ∈ W0 := by decide +kernel
abbrev w_PC_init : List Cond := .code y_PC_init b_PC_init 4 none :: W0
abbrev w_PC_pictureSize : List Cond := .code y_PC_pictureSize b_PC_pictureSize 1 (some .int) :: W0
abbrev w_Ri_init : List Cond := .code y_Ri_init b_Ri_init 1 none :: W0
abbrev w_Ri_addRow : List Cond := .code y_Ri_addRow b_Ri_addRow 1 (some .int) :: W0
abbrev w_Fa_init : List Cond := .code y_Fa_init b_Fa_init 1 none :: W0
abbrev w_PC_focus : List Cond := .code y_PC_focus b_PC_focus 2 (some .boolean) :: W0
abbrev w_PC_place : List Cond := .code y_PC_place b_PC_place 5 (some .boolean) :: W0
abbrev w_Ri_has : List Cond := .code y_Ri_has b_Ri_has 2 (some .boolean) :: W0
abbrev w_PC_isPlace : List Cond := .code y_PC_isPlace b_PC_isPlace 1 (some .boolean) :: W0
abbrev w_Ri_put : List Cond := .code y_Ri_put b_Ri_put 5 none :: W0
abbrev w_PC_paint : List Cond := .code y_PC_paint b_PC_paint 5 (some .boolean) :: W0
abbrev w_PC_isPaint : List Cond := .code y_PC_isPaint b_PC_isPaint 1 (some .boolean) :: W0
abbrev w_PC_cut : List Cond := .code y_PC_cut b_PC_cut 3 (some .int) :: W0
abbrev w_Ri_clear : List Cond := .code y_Ri_clear b_Ri_clear 1 none :: W0
abbrev w_Ri_addCopy : List Cond := .code y_Ri_addCopy b_Ri_addCopy 5 none :: W0
abbrev w_Ri_at : List Cond := .code y_Ri_at b_Ri_at 3 (some .long) :: W0
abbrev w_PC_cutBySide : List Cond := .code y_PC_cutBySide b_PC_cutBySide 6 none :: W0
abbrev w_PC_sideNumber : List Cond := .code y_PC_sideNumber b_PC_sideNumber 9 (some .long) :: W0
abbrev w_PC_addBetween : List Cond := .code y_PC_addBetween b_PC_addBetween 14 none :: W0
abbrev w_PC_div : List Cond := .code y_PC_div b_PC_div 4 (some .long) :: W0
abbrev w_Ma_floorDiv : List Cond := .code y_Ma_floorDiv b_Ma_floorDiv 6 (some .long) :: W0
abbrev w_PC_layOnPicture : List Cond := .code y_PC_layOnPicture b_PC_layOnPicture 4 none :: W0
abbrev w_PC_divide : List Cond := .code y_PC_divide b_PC_divide 5 none :: W0
abbrev w_Fa_clear : List Cond := .code y_Fa_clear b_Fa_clear 1 none :: W0
abbrev w_PC_areaWith : List Cond := .code y_PC_areaWith b_PC_areaWith 7 (some .long) :: W0
abbrev w_Fa_add : List Cond := .code y_Fa_add b_Fa_add 5 none :: W0
abbrev w_PC_piece : List Cond := .code y_PC_piece b_PC_piece 4 (some .int) :: W0
abbrev w_Fa_corner : List Cond := .code y_Fa_corner b_Fa_corner 3 (some .int) :: W0
abbrev w_Fa_has : List Cond := .code y_Fa_has b_Fa_has 2 (some .boolean) :: W0
abbrev w_PC_area : List Cond := .code y_PC_area b_PC_area 2 (some .int) :: W0
abbrev w_PC_first : List Cond := .code y_PC_first b_PC_first 4 (some .int) :: W0
abbrev w_PC_covers : List Cond := .code y_PC_covers b_PC_covers 5 (some .boolean) :: W0
abbrev w_PC_isPixel : List Cond := .code y_PC_isPixel b_PC_isPixel 3 (some .boolean) :: W0
abbrev w_PC_isInside : List Cond := .code y_PC_isInside b_PC_isInside 11 (some .boolean) :: W0
abbrev w_PC_edgeNumber : List Cond := .code y_PC_edgeNumber b_PC_edgeNumber 11 (some .long) :: W0
abbrev w_PC_cornerAfter : List Cond := .code y_PC_cornerAfter b_PC_cornerAfter 1 (some .int) :: W0
abbrev w_PC_middle : List Cond := .code y_PC_middle b_PC_middle 1 (some .long) :: W0
abbrev w_PC_last : List Cond := .code y_PC_last b_PC_last 4 (some .int) :: W0
abbrev w_PC_near : List Cond := .code y_PC_near b_PC_near 4 (some .int) :: W0
abbrev w_PC_weightSum : List Cond := .code y_PC_weightSum b_PC_weightSum 4 (some .long) :: W0
abbrev w_PC_weight : List Cond := .code y_PC_weight b_PC_weight 5 (some .long) :: W0
abbrev w_PC_number : List Cond := .code y_PC_number b_PC_number 8 (some .int) :: W0
abbrev w_PC_covered : List Cond := .code y_PC_covered b_PC_covered 5 (some .int) :: W0
abbrev w_La_cell : List Cond := .code y_La_cell b_La_cell 2 (some .int) :: W0
abbrev w_Mo_init : List Cond := .code y_Mo_init b_Mo_init 3 none :: W0
abbrev w_Mo_focus : List Cond := .code y_Mo_focus b_Mo_focus 2 (some .boolean) :: W0
abbrev w_Mo_within : List Cond := .code y_Mo_within b_Mo_within 3 (some .boolean) :: W0
abbrev w_Mo_place : List Cond := .code y_Mo_place b_Mo_place 5 (some .boolean) :: W0
abbrev w_Mo_far : List Cond := .code y_Mo_far b_Mo_far 1 (some .boolean) :: W0
abbrev w_Mo_paint : List Cond := .code y_Mo_paint b_Mo_paint 5 (some .boolean) :: W0
abbrev w_Mo_cut : List Cond := .code y_Mo_cut b_Mo_cut 3 (some .int) :: W0
abbrev w_Mo_cutBy : List Cond := .code y_Mo_cutBy b_Mo_cutBy 9 none :: W0
abbrev w_Mo_number2 : List Cond := .code y_Mo_number2 b_Mo_number2 9 (some .long) :: W0
abbrev w_Mo_between : List Cond := .code y_Mo_between b_Mo_between 8 none :: W0
abbrev w_Mo_div : List Cond := .code y_Mo_div b_Mo_div 6 (some .long) :: W0
abbrev w_Mo_lay : List Cond := .code y_Mo_lay b_Mo_lay 8 none :: W0
abbrev w_Mo_areaOf : List Cond := .code y_Mo_areaOf b_Mo_areaOf 3 (some .long) :: W0
abbrev w_Mo_piece : List Cond := .code y_Mo_piece b_Mo_piece 4 (some .int) :: W0
abbrev w_Mo_area : List Cond := .code y_Mo_area b_Mo_area 2 (some .int) :: W0
abbrev w_Mo_first : List Cond := .code y_Mo_first b_Mo_first 4 (some .int) :: W0
abbrev w_Mo_covers : List Cond := .code y_Mo_covers b_Mo_covers 4 (some .boolean) :: W0
abbrev w_Mo_isPixel : List Cond := .code y_Mo_isPixel b_Mo_isPixel 3 (some .boolean) :: W0
abbrev w_Mo_owns : List Cond := .code y_Mo_owns b_Mo_owns 10 (some .boolean) :: W0
abbrev w_Mo_edge : List Cond := .code y_Mo_edge b_Mo_edge 8 (some .long) :: W0
abbrev w_Mo_last : List Cond := .code y_Mo_last b_Mo_last 4 (some .int) :: W0
abbrev w_Mo_near : List Cond := .code y_Mo_near b_Mo_near 4 (some .int) :: W0
abbrev w_Mo_weight : List Cond := .code y_Mo_weight b_Mo_weight 5 (some .long) :: W0
abbrev w_Mo_number : List Cond := .code y_Mo_number b_Mo_number 10 (some .int) :: W0
abbrev w_Mo_covered : List Cond := .code y_Mo_covered b_Mo_covered 5 (some .int) :: W0
def nw_list : List Cond := [.methodLinkNest R_PC 25 y_Ri_init "PieceCutter", .fieldLinkNest R_PC 137 "PieceCutter$Ring" "size" "I" "PieceCutter", .methodLinkNest R_PC 30 y_Ri_addRow "PieceCutter", .methodLinkNest R_PC 45 y_Fa_init "PieceCutter", .fieldLinkNest R_PC 95 "PieceCutter$Fan" "areas" "[I" "PieceCutter", .fieldLinkNest R_PC 83 "PieceCutter$Fan" "size" "I" "PieceCutter", .methodLinkNest R_PC 50 y_Ri_has "PieceCutter", .methodLinkNest R_PC 57 y_Ri_put "PieceCutter", .methodLinkNest R_PC 65 y_Ri_clear "PieceCutter", .methodLinkNest R_PC 68 y_Ri_addCopy "PieceCutter", .methodLinkNest R_PC 90 y_Ri_at "PieceCutter", .methodLinkNest R_PC 153 y_Fa_clear "PieceCutter", .methodLinkNest R_PC 157 y_Fa_add "PieceCutter", .methodLinkNest R_PC 86 y_Fa_corner "PieceCutter", .methodLinkNest R_PC 94 y_Fa_has "PieceCutter"]
theorem nw_0 : Cond.methodLinkNest R_PC 25 y_Ri_init "PieceCutter" ∈ nw_list := List.mem_of_getElem? (i := 0) rfl
theorem nw_1 : Cond.fieldLinkNest R_PC 137 "PieceCutter$Ring" "size" "I" "PieceCutter" ∈ nw_list := List.mem_of_getElem? (i := 1) rfl
theorem nw_2 : Cond.methodLinkNest R_PC 30 y_Ri_addRow "PieceCutter" ∈ nw_list := List.mem_of_getElem? (i := 2) rfl
theorem nw_3 : Cond.methodLinkNest R_PC 45 y_Fa_init "PieceCutter" ∈ nw_list := List.mem_of_getElem? (i := 3) rfl
theorem nw_4 : Cond.fieldLinkNest R_PC 95 "PieceCutter$Fan" "areas" "[I" "PieceCutter" ∈ nw_list := List.mem_of_getElem? (i := 4) rfl
theorem nw_5 : Cond.fieldLinkNest R_PC 83 "PieceCutter$Fan" "size" "I" "PieceCutter" ∈ nw_list := List.mem_of_getElem? (i := 5) rfl
theorem nw_6 : Cond.methodLinkNest R_PC 50 y_Ri_has "PieceCutter" ∈ nw_list := List.mem_of_getElem? (i := 6) rfl
theorem nw_7 : Cond.methodLinkNest R_PC 57 y_Ri_put "PieceCutter" ∈ nw_list := List.mem_of_getElem? (i := 7) rfl
theorem nw_8 : Cond.methodLinkNest R_PC 65 y_Ri_clear "PieceCutter" ∈ nw_list := List.mem_of_getElem? (i := 8) rfl
theorem nw_9 : Cond.methodLinkNest R_PC 68 y_Ri_addCopy "PieceCutter" ∈ nw_list := List.mem_of_getElem? (i := 9) rfl
theorem nw_10 : Cond.methodLinkNest R_PC 90 y_Ri_at "PieceCutter" ∈ nw_list := List.mem_of_getElem? (i := 10) rfl
theorem nw_11 : Cond.methodLinkNest R_PC 153 y_Fa_clear "PieceCutter" ∈ nw_list := List.mem_of_getElem? (i := 11) rfl
theorem nw_12 : Cond.methodLinkNest R_PC 157 y_Fa_add "PieceCutter" ∈ nw_list := List.mem_of_getElem? (i := 12) rfl
theorem nw_13 : Cond.methodLinkNest R_PC 86 y_Fa_corner "PieceCutter" ∈ nw_list := List.mem_of_getElem? (i := 13) rfl
theorem nw_14 : Cond.methodLinkNest R_PC 94 y_Fa_has "PieceCutter" ∈ nw_list := List.mem_of_getElem? (i := 14) rfl
theorem nw_in : ∀ w ∈ nw_list, w ∈ lw_tbl := w0p (ps := [57, 63, 70, 76, 83, 85, 129, 138, 157, 161, 179, 202, 210, 218, 230]) (by decide +kernel)
