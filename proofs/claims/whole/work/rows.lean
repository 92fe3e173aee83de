section
-- ===== PART A: goes FIRST, ahead of the names: the tables' words, and 'selects' of the private methods out of them =====
/-- a private method of a class that the tables say can be made, by its rows of tables_1 -/
def lw_okq (q : MethodName × Nat) : Prop := (q.1.cls ≠ "java/lang/invoke/MethodHandle" ∧ q.1.cls ≠ "java/lang/invoke/VarHandle") ∧ Cond.instantiable q.1.cls q.2 ∈ tables_1 ∧ Cond.privateMethod q.1 ∈ tables_1 ∧ Cond.instanceMethod q.1 ∈ tables_1
theorem lw_p0 : lw_okq (⟨"PieceCutter$Ring", "addRow", "()I"⟩, 2) := ⟨⟨by decide +kernel, by decide +kernel⟩, List.mem_of_getElem? (i := 24) (by decide +kernel), List.mem_of_getElem? (i := 39) (by decide +kernel), List.mem_of_getElem? (i := 40) (by decide +kernel)⟩
theorem lw_p1 : lw_okq (⟨"PieceCutter$Ring", "has", "(I)Z"⟩, 2) := ⟨⟨by decide +kernel, by decide +kernel⟩, List.mem_of_getElem? (i := 24) (by decide +kernel), List.mem_of_getElem? (i := 98) (by decide +kernel), List.mem_of_getElem? (i := 99) (by decide +kernel)⟩
theorem lw_p2 : lw_okq (⟨"PieceCutter$Ring", "put", "(IIJ)V"⟩, 2) := ⟨⟨by decide +kernel, by decide +kernel⟩, List.mem_of_getElem? (i := 24) (by decide +kernel), List.mem_of_getElem? (i := 107) (by decide +kernel), List.mem_of_getElem? (i := 108) (by decide +kernel)⟩
theorem lw_p3 : lw_okq (⟨"PieceCutter$Ring", "clear", "()V"⟩, 2) := ⟨⟨by decide +kernel, by decide +kernel⟩, List.mem_of_getElem? (i := 24) (by decide +kernel), List.mem_of_getElem? (i := 126) (by decide +kernel), List.mem_of_getElem? (i := 127) (by decide +kernel)⟩
theorem lw_p4 : lw_okq (⟨"PieceCutter$Ring", "addCopy", "(LPieceCutter$Ring;I)V"⟩, 2) := ⟨⟨by decide +kernel, by decide +kernel⟩, List.mem_of_getElem? (i := 24) (by decide +kernel), List.mem_of_getElem? (i := 130) (by decide +kernel), List.mem_of_getElem? (i := 131) (by decide +kernel)⟩
theorem lw_p5 : lw_okq (⟨"PieceCutter$Ring", "at", "(II)J"⟩, 2) := ⟨⟨by decide +kernel, by decide +kernel⟩, List.mem_of_getElem? (i := 24) (by decide +kernel), List.mem_of_getElem? (i := 135) (by decide +kernel), List.mem_of_getElem? (i := 136) (by decide +kernel)⟩
theorem lw_p6 : lw_okq (⟨"PieceCutter", "cutBySide", "(I)V"⟩, 8) := ⟨⟨by decide +kernel, by decide +kernel⟩, List.mem_of_getElem? (i := 7) (by decide +kernel), List.mem_of_getElem? (i := 140) (by decide +kernel), List.mem_of_getElem? (i := 141) (by decide +kernel)⟩
theorem lw_p7 : lw_okq (⟨"PieceCutter", "sideNumber", "(II)J"⟩, 8) := ⟨⟨by decide +kernel, by decide +kernel⟩, List.mem_of_getElem? (i := 7) (by decide +kernel), List.mem_of_getElem? (i := 144) (by decide +kernel), List.mem_of_getElem? (i := 145) (by decide +kernel)⟩
theorem lw_p8 : lw_okq (⟨"PieceCutter", "addBetween", "(III)V"⟩, 8) := ⟨⟨by decide +kernel, by decide +kernel⟩, List.mem_of_getElem? (i := 7) (by decide +kernel), List.mem_of_getElem? (i := 150) (by decide +kernel), List.mem_of_getElem? (i := 151) (by decide +kernel)⟩
theorem lw_p9 : lw_okq (⟨"PieceCutter", "layOnPicture", "()V"⟩, 8) := ⟨⟨by decide +kernel, by decide +kernel⟩, List.mem_of_getElem? (i := 7) (by decide +kernel), List.mem_of_getElem? (i := 160) (by decide +kernel), List.mem_of_getElem? (i := 161) (by decide +kernel)⟩
theorem lw_p10 : lw_okq (⟨"PieceCutter", "divide", "(Z)V"⟩, 8) := ⟨⟨by decide +kernel, by decide +kernel⟩, List.mem_of_getElem? (i := 7) (by decide +kernel), List.mem_of_getElem? (i := 167) (by decide +kernel), List.mem_of_getElem? (i := 168) (by decide +kernel)⟩
theorem lw_p11 : lw_okq (⟨"PieceCutter$Fan", "clear", "()V"⟩, 4) := ⟨⟨by decide +kernel, by decide +kernel⟩, List.mem_of_getElem? (i := 43) (by decide +kernel), List.mem_of_getElem? (i := 171) (by decide +kernel), List.mem_of_getElem? (i := 172) (by decide +kernel)⟩
theorem lw_p12 : lw_okq (⟨"PieceCutter", "areaWith", "(II)J"⟩, 8) := ⟨⟨by decide +kernel, by decide +kernel⟩, List.mem_of_getElem? (i := 7) (by decide +kernel), List.mem_of_getElem? (i := 175) (by decide +kernel), List.mem_of_getElem? (i := 176) (by decide +kernel)⟩
theorem lw_p13 : lw_okq (⟨"PieceCutter$Fan", "add", "(IIJ)V"⟩, 4) := ⟨⟨by decide +kernel, by decide +kernel⟩, List.mem_of_getElem? (i := 43) (by decide +kernel), List.mem_of_getElem? (i := 179) (by decide +kernel), List.mem_of_getElem? (i := 180) (by decide +kernel)⟩
theorem lw_p14 : lw_okq (⟨"PieceCutter$Fan", "corner", "(II)I"⟩, 4) := ⟨⟨by decide +kernel, by decide +kernel⟩, List.mem_of_getElem? (i := 43) (by decide +kernel), List.mem_of_getElem? (i := 187) (by decide +kernel), List.mem_of_getElem? (i := 188) (by decide +kernel)⟩
theorem lw_p15 : lw_okq (⟨"PieceCutter$Fan", "has", "(I)Z"⟩, 4) := ⟨⟨by decide +kernel, by decide +kernel⟩, List.mem_of_getElem? (i := 43) (by decide +kernel), List.mem_of_getElem? (i := 191) (by decide +kernel), List.mem_of_getElem? (i := 192) (by decide +kernel)⟩
def lw_privs_1 : List (MethodName × Nat) := [(⟨"PieceCutter$Ring", "addRow", "()I"⟩, 2), (⟨"PieceCutter$Ring", "has", "(I)Z"⟩, 2), (⟨"PieceCutter$Ring", "put", "(IIJ)V"⟩, 2), (⟨"PieceCutter$Ring", "clear", "()V"⟩, 2), (⟨"PieceCutter$Ring", "addCopy", "(LPieceCutter$Ring;I)V"⟩, 2), (⟨"PieceCutter$Ring", "at", "(II)J"⟩, 2), (⟨"PieceCutter", "cutBySide", "(I)V"⟩, 8), (⟨"PieceCutter", "sideNumber", "(II)J"⟩, 8), (⟨"PieceCutter", "addBetween", "(III)V"⟩, 8), (⟨"PieceCutter", "layOnPicture", "()V"⟩, 8), (⟨"PieceCutter", "divide", "(Z)V"⟩, 8), (⟨"PieceCutter$Fan", "clear", "()V"⟩, 4), (⟨"PieceCutter", "areaWith", "(II)J"⟩, 8), (⟨"PieceCutter$Fan", "add", "(IIJ)V"⟩, 4), (⟨"PieceCutter$Fan", "corner", "(II)I"⟩, 4), (⟨"PieceCutter$Fan", "has", "(I)Z"⟩, 4)]
theorem lw_r1 : ∀ q ∈ lw_privs_1, lw_okq q := List.forall_mem_cons.mpr ⟨lw_p0, List.forall_mem_cons.mpr ⟨lw_p1, List.forall_mem_cons.mpr ⟨lw_p2, List.forall_mem_cons.mpr ⟨lw_p3, List.forall_mem_cons.mpr ⟨lw_p4, List.forall_mem_cons.mpr ⟨lw_p5, List.forall_mem_cons.mpr ⟨lw_p6, List.forall_mem_cons.mpr ⟨lw_p7, List.forall_mem_cons.mpr ⟨lw_p8, List.forall_mem_cons.mpr ⟨lw_p9, List.forall_mem_cons.mpr ⟨lw_p10, List.forall_mem_cons.mpr ⟨lw_p11, List.forall_mem_cons.mpr ⟨lw_p12, List.forall_mem_cons.mpr ⟨lw_p13, List.forall_mem_cons.mpr ⟨lw_p14, List.forall_mem_cons.mpr ⟨lw_p15, fun _ h => absurd h List.not_mem_nil⟩⟩⟩⟩⟩⟩⟩⟩⟩⟩⟩⟩⟩⟩⟩⟩
theorem lw_p16 : lw_okq (⟨"PieceCutter", "covers", "(III)Z"⟩, 8) := ⟨⟨by decide +kernel, by decide +kernel⟩, List.mem_of_getElem? (i := 7) (by decide +kernel), List.mem_of_getElem? (i := 204) (by decide +kernel), List.mem_of_getElem? (i := 205) (by decide +kernel)⟩
theorem lw_p17 : lw_okq (⟨"PieceCutter", "isPixel", "(II)Z"⟩, 8) := ⟨⟨by decide +kernel, by decide +kernel⟩, List.mem_of_getElem? (i := 7) (by decide +kernel), List.mem_of_getElem? (i := 208) (by decide +kernel), List.mem_of_getElem? (i := 209) (by decide +kernel)⟩
theorem lw_p18 : lw_okq (⟨"PieceCutter", "isInside", "(IIII)Z"⟩, 8) := ⟨⟨by decide +kernel, by decide +kernel⟩, List.mem_of_getElem? (i := 7) (by decide +kernel), List.mem_of_getElem? (i := 212) (by decide +kernel), List.mem_of_getElem? (i := 213) (by decide +kernel)⟩
theorem lw_p19 : lw_okq (⟨"PieceCutter", "edgeNumber", "(IIII)J"⟩, 8) := ⟨⟨by decide +kernel, by decide +kernel⟩, List.mem_of_getElem? (i := 7) (by decide +kernel), List.mem_of_getElem? (i := 216) (by decide +kernel), List.mem_of_getElem? (i := 217) (by decide +kernel)⟩
theorem lw_p20 : lw_okq (⟨"PieceCutter", "weightSum", "(III)J"⟩, 8) := ⟨⟨by decide +kernel, by decide +kernel⟩, List.mem_of_getElem? (i := 7) (by decide +kernel), List.mem_of_getElem? (i := 234) (by decide +kernel), List.mem_of_getElem? (i := 235) (by decide +kernel)⟩
theorem lw_p21 : lw_okq (⟨"PieceCutter", "weight", "(IIII)J"⟩, 8) := ⟨⟨by decide +kernel, by decide +kernel⟩, List.mem_of_getElem? (i := 7) (by decide +kernel), List.mem_of_getElem? (i := 238) (by decide +kernel), List.mem_of_getElem? (i := 239) (by decide +kernel)⟩
theorem lw_p22 : lw_okq (⟨"PieceCutterModel", "cutBy", "(I)V"⟩, 12) := ⟨⟨by decide +kernel, by decide +kernel⟩, List.mem_of_getElem? (i := 254) (by decide +kernel), List.mem_of_getElem? (i := 324) (by decide +kernel), List.mem_of_getElem? (i := 325) (by decide +kernel)⟩
theorem lw_p23 : lw_okq (⟨"PieceCutterModel", "number", "(II)J"⟩, 12) := ⟨⟨by decide +kernel, by decide +kernel⟩, List.mem_of_getElem? (i := 254) (by decide +kernel), List.mem_of_getElem? (i := 328) (by decide +kernel), List.mem_of_getElem? (i := 329) (by decide +kernel)⟩
theorem lw_p24 : lw_okq (⟨"PieceCutterModel", "between", "(IJIJ)V"⟩, 12) := ⟨⟨by decide +kernel, by decide +kernel⟩, List.mem_of_getElem? (i := 254) (by decide +kernel), List.mem_of_getElem? (i := 333) (by decide +kernel), List.mem_of_getElem? (i := 334) (by decide +kernel)⟩
theorem lw_p25 : lw_okq (⟨"PieceCutterModel", "lay", "(III)V"⟩, 12) := ⟨⟨by decide +kernel, by decide +kernel⟩, List.mem_of_getElem? (i := 254) (by decide +kernel), List.mem_of_getElem? (i := 340) (by decide +kernel), List.mem_of_getElem? (i := 341) (by decide +kernel)⟩
theorem lw_p26 : lw_okq (⟨"PieceCutterModel", "areaOf", "(I)J"⟩, 12) := ⟨⟨by decide +kernel, by decide +kernel⟩, List.mem_of_getElem? (i := 254) (by decide +kernel), List.mem_of_getElem? (i := 347) (by decide +kernel), List.mem_of_getElem? (i := 348) (by decide +kernel)⟩
theorem lw_p27 : lw_okq (⟨"PieceCutterModel", "covers", "(III)Z"⟩, 12) := ⟨⟨by decide +kernel, by decide +kernel⟩, List.mem_of_getElem? (i := 254) (by decide +kernel), List.mem_of_getElem? (i := 363) (by decide +kernel), List.mem_of_getElem? (i := 364) (by decide +kernel)⟩
theorem lw_p28 : lw_okq (⟨"PieceCutterModel", "isPixel", "(II)Z"⟩, 12) := ⟨⟨by decide +kernel, by decide +kernel⟩, List.mem_of_getElem? (i := 254) (by decide +kernel), List.mem_of_getElem? (i := 367) (by decide +kernel), List.mem_of_getElem? (i := 368) (by decide +kernel)⟩
theorem lw_p29 : lw_okq (⟨"PieceCutterModel", "owns", "(IIIII)Z"⟩, 12) := ⟨⟨by decide +kernel, by decide +kernel⟩, List.mem_of_getElem? (i := 254) (by decide +kernel), List.mem_of_getElem? (i := 371) (by decide +kernel), List.mem_of_getElem? (i := 372) (by decide +kernel)⟩
theorem lw_p30 : lw_okq (⟨"PieceCutterModel", "edge", "(IIIII)J"⟩, 12) := ⟨⟨by decide +kernel, by decide +kernel⟩, List.mem_of_getElem? (i := 254) (by decide +kernel), List.mem_of_getElem? (i := 375) (by decide +kernel), List.mem_of_getElem? (i := 376) (by decide +kernel)⟩
theorem lw_p31 : lw_okq (⟨"PieceCutterModel", "weight", "(IIII)J"⟩, 12) := ⟨⟨by decide +kernel, by decide +kernel⟩, List.mem_of_getElem? (i := 254) (by decide +kernel), List.mem_of_getElem? (i := 387) (by decide +kernel), List.mem_of_getElem? (i := 388) (by decide +kernel)⟩
def lw_privs_2 : List (MethodName × Nat) := [(⟨"PieceCutter", "covers", "(III)Z"⟩, 8), (⟨"PieceCutter", "isPixel", "(II)Z"⟩, 8), (⟨"PieceCutter", "isInside", "(IIII)Z"⟩, 8), (⟨"PieceCutter", "edgeNumber", "(IIII)J"⟩, 8), (⟨"PieceCutter", "weightSum", "(III)J"⟩, 8), (⟨"PieceCutter", "weight", "(IIII)J"⟩, 8), (⟨"PieceCutterModel", "cutBy", "(I)V"⟩, 12), (⟨"PieceCutterModel", "number", "(II)J"⟩, 12), (⟨"PieceCutterModel", "between", "(IJIJ)V"⟩, 12), (⟨"PieceCutterModel", "lay", "(III)V"⟩, 12), (⟨"PieceCutterModel", "areaOf", "(I)J"⟩, 12), (⟨"PieceCutterModel", "covers", "(III)Z"⟩, 12), (⟨"PieceCutterModel", "isPixel", "(II)Z"⟩, 12), (⟨"PieceCutterModel", "owns", "(IIIII)Z"⟩, 12), (⟨"PieceCutterModel", "edge", "(IIIII)J"⟩, 12), (⟨"PieceCutterModel", "weight", "(IIII)J"⟩, 12)]
theorem lw_r2 : ∀ q ∈ lw_privs_2, lw_okq q := List.forall_mem_cons.mpr ⟨lw_p16, List.forall_mem_cons.mpr ⟨lw_p17, List.forall_mem_cons.mpr ⟨lw_p18, List.forall_mem_cons.mpr ⟨lw_p19, List.forall_mem_cons.mpr ⟨lw_p20, List.forall_mem_cons.mpr ⟨lw_p21, List.forall_mem_cons.mpr ⟨lw_p22, List.forall_mem_cons.mpr ⟨lw_p23, List.forall_mem_cons.mpr ⟨lw_p24, List.forall_mem_cons.mpr ⟨lw_p25, List.forall_mem_cons.mpr ⟨lw_p26, List.forall_mem_cons.mpr ⟨lw_p27, List.forall_mem_cons.mpr ⟨lw_p28, List.forall_mem_cons.mpr ⟨lw_p29, List.forall_mem_cons.mpr ⟨lw_p30, List.forall_mem_cons.mpr ⟨lw_p31, fun _ h => absurd h List.not_mem_nil⟩⟩⟩⟩⟩⟩⟩⟩⟩⟩⟩⟩⟩⟩⟩⟩
def lw_privs : List (MethodName × Nat) := lw_privs_1 ++ (lw_privs_2)
def lw_tbl : List Cond := k2_sels lw_privs ++ tables_1
theorem lw_privs_ok : ∀ q ∈ lw_privs, lw_okq q := by
  show ∀ q ∈ lw_privs_1 ++ (lw_privs_2), lw_okq q
  exact List.forall_mem_append.mpr ⟨lw_r1, lw_r2⟩
end
section
def R_PC : String := "PieceCutter"
def R_Ri : String := "PieceCutter$Ring"
def R_Fa : String := "PieceCutter$Fan"
def R_Mo : String := "PieceCutterModel"
def R_La : String := "PieceCutterLaw"
def R_Ma : String := "java/lang/Math"
def F_PC : u_T := fun k => match k with
  | 0 => ("PieceCutter", "width", "I", true)
  | 1 => ("PieceCutter", "height", "I", true)
  | 2 => ("PieceCutter", "focusNow", "I", false)
  | 3 => ("PieceCutter", "given", "LPieceCutter$Ring;", true)
  | 4 => ("PieceCutter", "kept", "LPieceCutter$Ring;", false)
  | 5 => ("PieceCutter", "spare", "LPieceCutter$Ring;", false)
  | 6 => ("PieceCutter", "picture", "LPieceCutter$Ring;", true)
  | _ => ("PieceCutter", "fan", "LPieceCutter$Fan;", true)
def t_PC : Nat → FieldType := fun k => match k with
  | 0 => .int
  | 1 => .int
  | 2 => .int
  | 3 => .object "PieceCutter$Ring"
  | 4 => .object "PieceCutter$Ring"
  | 5 => .object "PieceCutter$Ring"
  | 6 => .object "PieceCutter$Ring"
  | _ => .object "PieceCutter$Fan"
theorem n_PC : ∀ a, a < 8 → ∀ b, b < 8 → a ≠ b → (F_PC a).2.1 ≠ (F_PC b).2.1 := by decide +kernel
theorem t_PC_ok : ∀ k, k < 8 → parseFieldDescriptor (F_PC k).2.2.1 = some (t_PC k) := by decide +kernel
def F_Ri : u_T := fun k => match k with
  | 0 => ("PieceCutter$Ring", "numbers", "[J", true)
  | _ => ("PieceCutter$Ring", "size", "I", false)
def t_Ri : Nat → FieldType := fun k => match k with
  | 0 => .array .long
  | _ => .int
theorem n_Ri : ∀ a, a < 2 → ∀ b, b < 2 → a ≠ b → (F_Ri a).2.1 ≠ (F_Ri b).2.1 := by decide +kernel
theorem t_Ri_ok : ∀ k, k < 2 → parseFieldDescriptor (F_Ri k).2.2.1 = some (t_Ri k) := by decide +kernel
def F_Fa : u_T := fun k => match k with
  | 0 => ("PieceCutter$Fan", "seconds", "[I", true)
  | 1 => ("PieceCutter$Fan", "thirds", "[I", true)
  | 2 => ("PieceCutter$Fan", "areas", "[I", true)
  | _ => ("PieceCutter$Fan", "size", "I", false)
def t_Fa : Nat → FieldType := fun k => match k with
  | 0 => .array .int
  | 1 => .array .int
  | 2 => .array .int
  | _ => .int
theorem n_Fa : ∀ a, a < 4 → ∀ b, b < 4 → a ≠ b → (F_Fa a).2.1 ≠ (F_Fa b).2.1 := by decide +kernel
theorem t_Fa_ok : ∀ k, k < 4 → parseFieldDescriptor (F_Fa k).2.2.1 = some (t_Fa k) := by decide +kernel
def F_Mo : u_T := fun k => match k with
  | 0 => ("PieceCutterModel", "thrown", "I", false)
  | 1 => ("PieceCutterModel", "width", "I", true)
  | 2 => ("PieceCutterModel", "height", "I", true)
  | 3 => ("PieceCutterModel", "focus", "I", false)
  | 4 => ("PieceCutterModel", "text", "[J", true)
  | 5 => ("PieceCutterModel", "row", "[J", false)
  | 6 => ("PieceCutterModel", "many", "I", false)
  | 7 => ("PieceCutterModel", "next", "[J", false)
  | 8 => ("PieceCutterModel", "nexts", "I", false)
  | 9 => ("PieceCutterModel", "pieces", "[J", true)
  | 10 => ("PieceCutterModel", "areas", "[J", true)
  | _ => ("PieceCutterModel", "count", "I", false)
def t_Mo : Nat → FieldType := fun k => match k with
  | 0 => .int
  | 1 => .int
  | 2 => .int
  | 3 => .int
  | 4 => .array .long
  | 5 => .array .long
  | 6 => .int
  | 7 => .array .long
  | 8 => .int
  | 9 => .array .long
  | 10 => .array .long
  | _ => .int
theorem n_Mo : ∀ a, a < 12 → ∀ b, b < 12 → a ≠ b → (F_Mo a).2.1 ≠ (F_Mo b).2.1 := by decide +kernel
theorem t_Mo_ok : ∀ k, k < 12 → parseFieldDescriptor (F_Mo k).2.2.1 = some (t_Mo k) := by decide +kernel
abbrev cls4 : List vw_C := [(R_PC, F_PC, 8), (R_Ri, F_Ri, 2), (R_Fa, F_Fa, 4), (R_Mo, F_Mo, 12)]
abbrev b_PC_init : ByteArray := prog_1_method_1_code
def y_PC_init : MethodName := ⟨R_PC, "<init>", "(II)V"⟩
abbrev b_PC_pictureSize : ByteArray := prog_1_method_13_code
def y_PC_pictureSize : MethodName := ⟨R_PC, "pictureSize", "(I)I"⟩
abbrev b_Ri_init : ByteArray := prog_3_method_1_code
def y_Ri_init : MethodName := ⟨R_Ri, "<init>", "()V"⟩
abbrev b_Ri_addRow : ByteArray := prog_3_method_6_code
def y_Ri_addRow : MethodName := ⟨R_Ri, "addRow", "()I"⟩
abbrev b_Fa_init : ByteArray := prog_2_method_1_code
def y_Fa_init : MethodName := ⟨R_Fa, "<init>", "()V"⟩
abbrev b_PC_focus : ByteArray := prog_1_method_2_code
def y_PC_focus : MethodName := ⟨R_PC, "focus", "(I)Z"⟩
abbrev b_PC_place : ByteArray := prog_1_method_3_code
def y_PC_place : MethodName := ⟨R_PC, "place", "(IIII)Z"⟩
abbrev b_Ri_has : ByteArray := prog_3_method_2_code
def y_Ri_has : MethodName := ⟨R_Ri, "has", "(I)Z"⟩
abbrev b_PC_isPlace : ByteArray := prog_1_method_14_code
def y_PC_isPlace : MethodName := ⟨R_PC, "isPlace", "(I)Z"⟩
abbrev b_Ri_put : ByteArray := prog_3_method_4_code
def y_Ri_put : MethodName := ⟨R_Ri, "put", "(IIJ)V"⟩
abbrev b_PC_paint : ByteArray := prog_1_method_4_code
def y_PC_paint : MethodName := ⟨R_PC, "paint", "(IIII)Z"⟩
abbrev b_PC_isPaint : ByteArray := prog_1_method_15_code
def y_PC_isPaint : MethodName := ⟨R_PC, "isPaint", "(I)Z"⟩
abbrev b_PC_cut : ByteArray := prog_1_method_5_code
def y_PC_cut : MethodName := ⟨R_PC, "cut", "(Z)I"⟩
abbrev b_Ri_clear : ByteArray := prog_3_method_5_code
def y_Ri_clear : MethodName := ⟨R_Ri, "clear", "()V"⟩
abbrev b_Ri_addCopy : ByteArray := prog_3_method_7_code
def y_Ri_addCopy : MethodName := ⟨R_Ri, "addCopy", "(LPieceCutter$Ring;I)V"⟩
abbrev b_Ri_at : ByteArray := prog_3_method_3_code
def y_Ri_at : MethodName := ⟨R_Ri, "at", "(II)J"⟩
abbrev b_PC_cutBySide : ByteArray := prog_1_method_18_code
def y_PC_cutBySide : MethodName := ⟨R_PC, "cutBySide", "(I)V"⟩
abbrev b_PC_sideNumber : ByteArray := prog_1_method_19_code
def y_PC_sideNumber : MethodName := ⟨R_PC, "sideNumber", "(II)J"⟩
abbrev b_PC_addBetween : ByteArray := prog_1_method_20_code
def y_PC_addBetween : MethodName := ⟨R_PC, "addBetween", "(III)V"⟩
abbrev b_PC_div : ByteArray := prog_1_method_17_code
def y_PC_div : MethodName := ⟨R_PC, "div", "(JJ)J"⟩
abbrev b_Ma_floorDiv : ByteArray := prog_6_method_49_code
def y_Ma_floorDiv : MethodName := ⟨R_Ma, "floorDiv", "(JJ)J"⟩
abbrev b_PC_layOnPicture : ByteArray := prog_1_method_21_code
def y_PC_layOnPicture : MethodName := ⟨R_PC, "layOnPicture", "()V"⟩
abbrev b_PC_divide : ByteArray := prog_1_method_22_code
def y_PC_divide : MethodName := ⟨R_PC, "divide", "(Z)V"⟩
abbrev b_Fa_clear : ByteArray := prog_2_method_3_code
def y_Fa_clear : MethodName := ⟨R_Fa, "clear", "()V"⟩
abbrev b_PC_areaWith : ByteArray := prog_1_method_23_code
def y_PC_areaWith : MethodName := ⟨R_PC, "areaWith", "(II)J"⟩
abbrev b_Fa_add : ByteArray := prog_2_method_4_code
def y_Fa_add : MethodName := ⟨R_Fa, "add", "(IIJ)V"⟩
abbrev b_PC_piece : ByteArray := prog_1_method_6_code
def y_PC_piece : MethodName := ⟨R_PC, "piece", "(III)I"⟩
abbrev b_Fa_corner : ByteArray := prog_2_method_5_code
def y_Fa_corner : MethodName := ⟨R_Fa, "corner", "(II)I"⟩
abbrev b_Fa_has : ByteArray := prog_2_method_2_code
def y_Fa_has : MethodName := ⟨R_Fa, "has", "(I)Z"⟩
abbrev b_PC_area : ByteArray := prog_1_method_7_code
def y_PC_area : MethodName := ⟨R_PC, "area", "(I)I"⟩
abbrev b_PC_first : ByteArray := prog_1_method_8_code
def y_PC_first : MethodName := ⟨R_PC, "first", "(II)I"⟩
abbrev b_PC_covers : ByteArray := prog_1_method_24_code
def y_PC_covers : MethodName := ⟨R_PC, "covers", "(III)Z"⟩
abbrev b_PC_isPixel : ByteArray := prog_1_method_16_code
def y_PC_isPixel : MethodName := ⟨R_PC, "isPixel", "(II)Z"⟩
abbrev b_PC_isInside : ByteArray := prog_1_method_25_code
def y_PC_isInside : MethodName := ⟨R_PC, "isInside", "(IIII)Z"⟩
abbrev b_PC_edgeNumber : ByteArray := prog_1_method_26_code
def y_PC_edgeNumber : MethodName := ⟨R_PC, "edgeNumber", "(IIII)J"⟩
abbrev b_PC_cornerAfter : ByteArray := prog_1_method_27_code
def y_PC_cornerAfter : MethodName := ⟨R_PC, "cornerAfter", "(I)I"⟩
abbrev b_PC_middle : ByteArray := prog_1_method_28_code
def y_PC_middle : MethodName := ⟨R_PC, "middle", "(I)J"⟩
abbrev b_PC_last : ByteArray := prog_1_method_9_code
def y_PC_last : MethodName := ⟨R_PC, "last", "(II)I"⟩
abbrev b_PC_near : ByteArray := prog_1_method_10_code
def y_PC_near : MethodName := ⟨R_PC, "near", "(III)I"⟩
abbrev b_PC_weightSum : ByteArray := prog_1_method_30_code
def y_PC_weightSum : MethodName := ⟨R_PC, "weightSum", "(III)J"⟩
abbrev b_PC_weight : ByteArray := prog_1_method_29_code
def y_PC_weight : MethodName := ⟨R_PC, "weight", "(IIII)J"⟩
abbrev b_PC_number : ByteArray := prog_1_method_11_code
def y_PC_number : MethodName := ⟨R_PC, "number", "(IIII)I"⟩
abbrev b_PC_covered : ByteArray := prog_1_method_12_code
def y_PC_covered : MethodName := ⟨R_PC, "covered", "(II)I"⟩
abbrev b_La_cell : ByteArray := method_2_code
def y_La_cell : MethodName := ⟨R_La, "cell", "([II)I"⟩
abbrev b_Mo_init : ByteArray := prog_5_method_1_code
def y_Mo_init : MethodName := ⟨R_Mo, "<init>", "(II)V"⟩
abbrev b_Mo_focus : ByteArray := prog_5_method_5_code
def y_Mo_focus : MethodName := ⟨R_Mo, "focus", "(I)Z"⟩
abbrev b_Mo_within : ByteArray := prog_5_method_4_code
def y_Mo_within : MethodName := ⟨R_Mo, "within", "(III)Z"⟩
abbrev b_Mo_place : ByteArray := prog_5_method_7_code
def y_Mo_place : MethodName := ⟨R_Mo, "place", "(IIII)Z"⟩
abbrev b_Mo_far : ByteArray := prog_5_method_6_code
def y_Mo_far : MethodName := ⟨R_Mo, "far", "(I)Z"⟩
abbrev b_Mo_paint : ByteArray := prog_5_method_8_code
def y_Mo_paint : MethodName := ⟨R_Mo, "paint", "(IIII)Z"⟩
abbrev b_Mo_cut : ByteArray := prog_5_method_14_code
def y_Mo_cut : MethodName := ⟨R_Mo, "cut", "(Z)I"⟩
abbrev b_Mo_cutBy : ByteArray := prog_5_method_11_code
def y_Mo_cutBy : MethodName := ⟨R_Mo, "cutBy", "(I)V"⟩
abbrev b_Mo_number2 : ByteArray := prog_5_method_9_code
def y_Mo_number2 : MethodName := ⟨R_Mo, "number", "(II)J"⟩
abbrev b_Mo_between : ByteArray := prog_5_method_10_code
def y_Mo_between : MethodName := ⟨R_Mo, "between", "(IJIJ)V"⟩
abbrev b_Mo_div : ByteArray := prog_5_method_3_code
def y_Mo_div : MethodName := ⟨R_Mo, "div", "(JJ)J"⟩
abbrev b_Mo_lay : ByteArray := prog_5_method_12_code
def y_Mo_lay : MethodName := ⟨R_Mo, "lay", "(III)V"⟩
abbrev b_Mo_areaOf : ByteArray := prog_5_method_13_code
def y_Mo_areaOf : MethodName := ⟨R_Mo, "areaOf", "(I)J"⟩
abbrev b_Mo_piece : ByteArray := prog_5_method_15_code
def y_Mo_piece : MethodName := ⟨R_Mo, "piece", "(III)I"⟩
abbrev b_Mo_area : ByteArray := prog_5_method_16_code
def y_Mo_area : MethodName := ⟨R_Mo, "area", "(I)I"⟩
abbrev b_Mo_first : ByteArray := prog_5_method_21_code
def y_Mo_first : MethodName := ⟨R_Mo, "first", "(II)I"⟩
abbrev b_Mo_covers : ByteArray := prog_5_method_20_code
def y_Mo_covers : MethodName := ⟨R_Mo, "covers", "(III)Z"⟩
abbrev b_Mo_isPixel : ByteArray := prog_5_method_19_code
def y_Mo_isPixel : MethodName := ⟨R_Mo, "isPixel", "(II)Z"⟩
abbrev b_Mo_owns : ByteArray := prog_5_method_18_code
def y_Mo_owns : MethodName := ⟨R_Mo, "owns", "(IIIII)Z"⟩
abbrev b_Mo_edge : ByteArray := prog_5_method_17_code
def y_Mo_edge : MethodName := ⟨R_Mo, "edge", "(IIIII)J"⟩
abbrev b_Mo_last : ByteArray := prog_5_method_22_code
def y_Mo_last : MethodName := ⟨R_Mo, "last", "(II)I"⟩
abbrev b_Mo_near : ByteArray := prog_5_method_24_code
def y_Mo_near : MethodName := ⟨R_Mo, "near", "(III)I"⟩
abbrev b_Mo_weight : ByteArray := prog_5_method_23_code
def y_Mo_weight : MethodName := ⟨R_Mo, "weight", "(IIII)J"⟩
abbrev b_Mo_number : ByteArray := prog_5_method_25_code
def y_Mo_number : MethodName := ⟨R_Mo, "number", "(IIII)I"⟩
abbrev b_Mo_covered : ByteArray := prog_5_method_26_code
def y_Mo_covered : MethodName := ⟨R_Mo, "covered", "(II)I"⟩
abbrev b_La_law : ByteArray := code
def W0_0 : List Cond := [.selects R_Ri y_Ri_addRow y_Ri_addRow, .selects R_Ri y_Ri_has y_Ri_has, .selects R_Ri y_Ri_put y_Ri_put, .selects R_Ri y_Ri_clear y_Ri_clear, .selects R_Ri y_Ri_addCopy y_Ri_addCopy, .selects R_Ri y_Ri_at y_Ri_at, .selects R_PC y_PC_cutBySide y_PC_cutBySide, .selects R_PC y_PC_sideNumber y_PC_sideNumber, .selects R_PC y_PC_addBetween y_PC_addBetween, .selects R_PC y_PC_layOnPicture y_PC_layOnPicture, .selects R_PC y_PC_divide y_PC_divide, .selects R_Fa y_Fa_clear y_Fa_clear, .selects R_PC y_PC_areaWith y_PC_areaWith, .selects R_Fa y_Fa_add y_Fa_add, .selects R_Fa y_Fa_corner y_Fa_corner, .selects R_Fa y_Fa_has y_Fa_has, .selects R_PC y_PC_covers y_PC_covers, .selects R_PC y_PC_isPixel y_PC_isPixel, .selects R_PC y_PC_isInside y_PC_isInside, .selects R_PC y_PC_edgeNumber y_PC_edgeNumber, .selects R_PC y_PC_weightSum y_PC_weightSum, .selects R_PC y_PC_weight y_PC_weight, .selects R_Mo y_Mo_cutBy y_Mo_cutBy, .selects R_Mo y_Mo_number2 y_Mo_number2, .selects R_Mo y_Mo_between y_Mo_between, .selects R_Mo y_Mo_lay y_Mo_lay, .selects R_Mo y_Mo_areaOf y_Mo_areaOf, .selects R_Mo y_Mo_covers y_Mo_covers, .selects R_Mo y_Mo_isPixel y_Mo_isPixel, .selects R_Mo y_Mo_owns y_Mo_owns, .selects R_Mo y_Mo_edge y_Mo_edge, .selects R_Mo y_Mo_weight y_Mo_weight, .initialized R_La, .initialized R_PC, .initialized "java/lang/Math", .initialized R_Ri, .initialized R_Fa, .initialized R_Mo, .classLink R_La 7 R_PC, .instantiable R_PC 8, .methodLink R_La 15 y_PC_init, .instanceMethod y_PC_init, .code y_PC_init b_PC_init 4 none, .methodLink R_PC 3 objectInit, .instanceMethod objectInit, .code objectInit ⟨#[0xb1]⟩ 1 none, .methodLink R_PC 9 y_PC_pictureSize, .static y_PC_pictureSize, .code y_PC_pictureSize b_PC_pictureSize 1 (some .int), .methodLink R_PC 122 Lib.Math.min.name]
def W0_1 : List Cond := [.static Lib.Math.min.name, .code Lib.Math.min.name Lib.Math.min.code 2 (some .int), .methodLink R_PC 127 Lib.Math.max.name, .static Lib.Math.max.name, .code Lib.Math.max.name Lib.Math.max.code 2 (some .int), .classLink R_PC 23 R_Ri, .instantiable R_Ri 2, .instanceMethod y_Ri_init, .code y_Ri_init b_Ri_init 1 none, .methodLink R_Ri 3 objectInit, .fieldLink R_Ri 9 "PieceCutter$Ring" "numbers" "[J", .fieldLink R_Ri 15 "PieceCutter$Ring" "size" "I", .laysFinal "PieceCutter$Ring" "PieceCutter$Ring" "numbers" "[J", .lays "PieceCutter$Ring" "PieceCutter$Ring" "size" "I", .arrayClass .long, .instanceMethod y_Ri_addRow, .code y_Ri_addRow b_Ri_addRow 1 (some .int), .classLink R_PC 43 R_Fa, .instantiable R_Fa 4, .instanceMethod y_Fa_init, .code y_Fa_init b_Fa_init 1 none, .methodLink R_Fa 3 objectInit, .fieldLink R_Fa 9 "PieceCutter$Fan" "seconds" "[I", .fieldLink R_Fa 15 "PieceCutter$Fan" "thirds" "[I", .fieldLink R_Fa 18 "PieceCutter$Fan" "areas" "[I", .fieldLink R_Fa 21 "PieceCutter$Fan" "size" "I", .laysFinal "PieceCutter$Fan" "PieceCutter$Fan" "seconds" "[I", .laysFinal "PieceCutter$Fan" "PieceCutter$Fan" "thirds" "[I", .laysFinal "PieceCutter$Fan" "PieceCutter$Fan" "areas" "[I", .lays "PieceCutter$Fan" "PieceCutter$Fan" "size" "I", .arrayClass .int, .fieldLink R_PC 13 "PieceCutter" "width" "I", .fieldLink R_PC 17 "PieceCutter" "height" "I", .fieldLink R_PC 20 "PieceCutter" "focusNow" "I", .fieldLink R_PC 26 "PieceCutter" "given" "LPieceCutter$Ring;", .fieldLink R_PC 34 "PieceCutter" "kept" "LPieceCutter$Ring;", .fieldLink R_PC 37 "PieceCutter" "spare" "LPieceCutter$Ring;", .fieldLink R_PC 40 "PieceCutter" "picture" "LPieceCutter$Ring;", .fieldLink R_PC 46 "PieceCutter" "fan" "LPieceCutter$Fan;", .laysFinal "PieceCutter" "PieceCutter" "width" "I", .laysFinal "PieceCutter" "PieceCutter" "height" "I", .lays "PieceCutter" "PieceCutter" "focusNow" "I", .laysFinal "PieceCutter" "PieceCutter" "given" "LPieceCutter$Ring;", .lays "PieceCutter" "PieceCutter" "kept" "LPieceCutter$Ring;", .lays "PieceCutter" "PieceCutter" "spare" "LPieceCutter$Ring;", .laysFinal "PieceCutter" "PieceCutter" "picture" "LPieceCutter$Ring;", .laysFinal "PieceCutter" "PieceCutter" "fan" "LPieceCutter$Fan;", .methodLink R_La 21 y_PC_focus, .instanceMethod y_PC_focus, .selects R_PC y_PC_focus y_PC_focus]
def W0_2 : List Cond := [.code y_PC_focus b_PC_focus 2 (some .boolean), .methodLink R_La 26 y_PC_place, .instanceMethod y_PC_place, .selects R_PC y_PC_place y_PC_place, .code y_PC_place b_PC_place 5 (some .boolean), .instanceMethod y_Ri_has, .code y_Ri_has b_Ri_has 2 (some .boolean), .methodLink R_PC 54 y_PC_isPlace, .static y_PC_isPlace, .code y_PC_isPlace b_PC_isPlace 1 (some .boolean), .constant R_PC 130 (-16777216), .constant R_PC 131 16777216, .instanceMethod y_Ri_put, .code y_Ri_put b_Ri_put 5 none, .methodLink R_Ri 19 y_Ri_has, .methodLink R_La 31 y_PC_paint, .instanceMethod y_PC_paint, .selects R_PC y_PC_paint y_PC_paint, .code y_PC_paint b_PC_paint 5 (some .boolean), .methodLink R_PC 61 y_PC_isPaint, .static y_PC_isPaint, .code y_PC_isPaint b_PC_isPaint 1 (some .boolean), .constant R_PC 132 (-131072), .constant R_PC 133 131072, .constant R_PC 64 65536, .methodLink R_La 35 y_PC_cut, .instanceMethod y_PC_cut, .selects R_PC y_PC_cut y_PC_cut, .code y_PC_cut b_PC_cut 3 (some .int), .instanceMethod y_Ri_clear, .code y_Ri_clear b_Ri_clear 1 none, .instanceMethod y_Ri_addCopy, .code y_Ri_addCopy b_Ri_addCopy 5 none, .methodLink R_Ri 23 y_Ri_addRow, .methodLink R_Ri 27 y_Ri_at, .instanceMethod y_Ri_at, .code y_Ri_at b_Ri_at 3 (some .long), .methodLink R_Ri 31 y_Ri_put, .methodLink R_PC 72 y_PC_cutBySide, .instanceMethod y_PC_cutBySide, .code y_PC_cutBySide b_PC_cutBySide 6 none, .methodLink R_PC 138 y_PC_sideNumber, .instanceMethod y_PC_sideNumber, .code y_PC_sideNumber b_PC_sideNumber 9 (some .long), .constantLong R_PC 145 4096, .methodLink R_PC 141 y_PC_addBetween, .instanceMethod y_PC_addBetween, .code y_PC_addBetween b_PC_addBetween 14 none, .methodLink R_PC 110 y_PC_div, .static y_PC_div]
def W0_3 : List Cond := [.code y_PC_div b_PC_div 4 (some .long), .methodLink R_PC 134 y_Ma_floorDiv, .static y_Ma_floorDiv, .code y_Ma_floorDiv b_Ma_floorDiv 6 (some .long), .methodLink R_PC 76 y_PC_layOnPicture, .instanceMethod y_PC_layOnPicture, .code y_PC_layOnPicture b_PC_layOnPicture 4 none, .constantLong R_PC 147 16, .constantLong R_PC 149 8, .constantLong R_PC 151 4294967296, .methodLink R_PC 79 y_PC_divide, .instanceMethod y_PC_divide, .code y_PC_divide b_PC_divide 5 none, .instanceMethod y_Fa_clear, .code y_Fa_clear b_Fa_clear 1 none, .methodLink R_PC 154 y_PC_areaWith, .instanceMethod y_PC_areaWith, .code y_PC_areaWith b_PC_areaWith 7 (some .long), .instanceMethod y_Fa_add, .code y_Fa_add b_Fa_add 5 none, .methodLink R_La 40 y_PC_piece, .instanceMethod y_PC_piece, .selects R_PC y_PC_piece y_PC_piece, .code y_PC_piece b_PC_piece 4 (some .int), .instanceMethod y_Fa_corner, .code y_Fa_corner b_Fa_corner 3 (some .int), .methodLink R_Fa 25 y_Fa_has, .instanceMethod y_Fa_has, .code y_Fa_has b_Fa_has 2 (some .boolean), .methodLink R_La 45 y_PC_area, .instanceMethod y_PC_area, .selects R_PC y_PC_area y_PC_area, .code y_PC_area b_PC_area 2 (some .int), .methodLink R_La 50 y_PC_first, .instanceMethod y_PC_first, .selects R_PC y_PC_first y_PC_first, .code y_PC_first b_PC_first 4 (some .int), .methodLink R_PC 99 y_PC_covers, .instanceMethod y_PC_covers, .code y_PC_covers b_PC_covers 5 (some .boolean), .methodLink R_PC 118 y_PC_isPixel, .instanceMethod y_PC_isPixel, .code y_PC_isPixel b_PC_isPixel 3 (some .boolean), .methodLink R_PC 160 y_PC_isInside, .instanceMethod y_PC_isInside, .code y_PC_isInside b_PC_isInside 11 (some .boolean), .methodLink R_PC 164 y_PC_edgeNumber, .instanceMethod y_PC_edgeNumber, .code y_PC_edgeNumber b_PC_edgeNumber 11 (some .long), .methodLink R_PC 167 y_PC_cornerAfter]
def W0_4 : List Cond := [.static y_PC_cornerAfter, .code y_PC_cornerAfter b_PC_cornerAfter 1 (some .int), .methodLink R_PC 170 y_PC_middle, .static y_PC_middle, .code y_PC_middle b_PC_middle 1 (some .long), .methodLink R_La 55 y_PC_last, .instanceMethod y_PC_last, .selects R_PC y_PC_last y_PC_last, .code y_PC_last b_PC_last 4 (some .int), .methodLink R_La 59 y_PC_near, .instanceMethod y_PC_near, .selects R_PC y_PC_near y_PC_near, .code y_PC_near b_PC_near 4 (some .int), .methodLink R_PC 103 y_PC_weightSum, .instanceMethod y_PC_weightSum, .code y_PC_weightSum b_PC_weightSum 4 (some .long), .methodLink R_PC 114 y_PC_weight, .instanceMethod y_PC_weight, .code y_PC_weight b_PC_weight 5 (some .long), .methodLink R_PC 107 y_PC_area, .methodLink R_La 63 y_PC_number, .instanceMethod y_PC_number, .selects R_PC y_PC_number y_PC_number, .code y_PC_number b_PC_number 8 (some .int), .methodLink R_La 68 y_PC_covered, .instanceMethod y_PC_covered, .selects R_PC y_PC_covered y_PC_covered, .code y_PC_covered b_PC_covered 5 (some .int), .methodLink R_La 9 y_La_cell, .static y_La_cell, .code y_La_cell b_La_cell 2 (some .int), .classLink R_La 18 R_Mo, .instantiable R_Mo 12, .methodLink R_La 20 y_Mo_init, .instanceMethod y_Mo_init, .code y_Mo_init b_Mo_init 3 none, .methodLink R_Mo 1 objectInit, .fieldLink R_Mo 35 "PieceCutterModel" "thrown" "I", .fieldLink R_Mo 29 "PieceCutterModel" "width" "I", .fieldLink R_Mo 32 "PieceCutterModel" "height" "I", .fieldLink R_Mo 7 "PieceCutterModel" "focus" "I", .fieldLink R_Mo 13 "PieceCutterModel" "text" "[J", .fieldLink R_Mo 17 "PieceCutterModel" "row" "[J", .fieldLink R_Mo 60 "PieceCutterModel" "many" "I", .fieldLink R_Mo 20 "PieceCutterModel" "next" "[J", .fieldLink R_Mo 53 "PieceCutterModel" "nexts" "I", .fieldLink R_Mo 23 "PieceCutterModel" "pieces" "[J", .fieldLink R_Mo 26 "PieceCutterModel" "areas" "[J", .fieldLink R_Mo 81 "PieceCutterModel" "count" "I", .lays "PieceCutterModel" "PieceCutterModel" "thrown" "I"]
def W0_5 : List Cond := [.laysFinal "PieceCutterModel" "PieceCutterModel" "width" "I", .laysFinal "PieceCutterModel" "PieceCutterModel" "height" "I", .lays "PieceCutterModel" "PieceCutterModel" "focus" "I", .laysFinal "PieceCutterModel" "PieceCutterModel" "text" "[J", .lays "PieceCutterModel" "PieceCutterModel" "row" "[J", .lays "PieceCutterModel" "PieceCutterModel" "many" "I", .lays "PieceCutterModel" "PieceCutterModel" "next" "[J", .lays "PieceCutterModel" "PieceCutterModel" "nexts" "I", .laysFinal "PieceCutterModel" "PieceCutterModel" "pieces" "[J", .laysFinal "PieceCutterModel" "PieceCutterModel" "areas" "[J", .lays "PieceCutterModel" "PieceCutterModel" "count" "I", .methodLink R_La 25 y_Mo_focus, .instanceMethod y_Mo_focus, .selects R_Mo y_Mo_focus y_Mo_focus, .code y_Mo_focus b_Mo_focus 2 (some .boolean), .methodLink R_Mo 38 y_Mo_within, .static y_Mo_within, .code y_Mo_within b_Mo_within 3 (some .boolean), .methodLink R_La 30 y_Mo_place, .instanceMethod y_Mo_place, .selects R_Mo y_Mo_place y_Mo_place, .code y_Mo_place b_Mo_place 5 (some .boolean), .methodLink R_Mo 44 y_Mo_far, .static y_Mo_far, .code y_Mo_far b_Mo_far 1 (some .boolean), .constant R_Mo 42 (-16777216), .constant R_Mo 43 16777216, .methodLink R_La 34 y_Mo_paint, .instanceMethod y_Mo_paint, .selects R_Mo y_Mo_paint y_Mo_paint, .code y_Mo_paint b_Mo_paint 5 (some .boolean), .constant R_Mo 48 (-131072), .constant R_Mo 49 131072, .constant R_Mo 50 65536, .methodLink R_La 39 y_Mo_cut, .instanceMethod y_Mo_cut, .selects R_Mo y_Mo_cut y_Mo_cut, .code y_Mo_cut b_Mo_cut 3 (some .int), .methodLink R_Mo 77 y_Mo_cutBy, .instanceMethod y_Mo_cutBy, .code y_Mo_cutBy b_Mo_cutBy 9 none, .methodLink R_Mo 63 y_Mo_number2, .instanceMethod y_Mo_number2, .code y_Mo_number2 b_Mo_number2 9 (some .long), .constantLong R_Mo 51 4096, .methodLink R_Mo 67 y_Mo_between, .instanceMethod y_Mo_between, .code y_Mo_between b_Mo_between 8 none, .methodLink R_Mo 56 y_Mo_div, .static y_Mo_div]
def W0_6 : List Cond := [.code y_Mo_div b_Mo_div 6 (some .long), .methodLink R_Mo 84 y_Mo_lay, .instanceMethod y_Mo_lay, .code y_Mo_lay b_Mo_lay 8 none, .constantLong R_Mo 71 16, .constantLong R_Mo 73 8, .constantLong R_Mo 75 4294967296, .methodLink R_Mo 88 y_Mo_areaOf, .instanceMethod y_Mo_areaOf, .code y_Mo_areaOf b_Mo_areaOf 3 (some .long), .methodLink R_La 44 y_Mo_piece, .instanceMethod y_Mo_piece, .selects R_Mo y_Mo_piece y_Mo_piece, .code y_Mo_piece b_Mo_piece 4 (some .int), .methodLink R_La 49 y_Mo_area, .instanceMethod y_Mo_area, .selects R_Mo y_Mo_area y_Mo_area, .code y_Mo_area b_Mo_area 2 (some .int), .methodLink R_La 54 y_Mo_first, .instanceMethod y_Mo_first, .selects R_Mo y_Mo_first y_Mo_first, .code y_Mo_first b_Mo_first 4 (some .int), .methodLink R_Mo 104 y_Mo_covers, .instanceMethod y_Mo_covers, .code y_Mo_covers b_Mo_covers 4 (some .boolean), .methodLink R_Mo 96 y_Mo_isPixel, .instanceMethod y_Mo_isPixel, .code y_Mo_isPixel b_Mo_isPixel 3 (some .boolean), .methodLink R_Mo 100 y_Mo_owns, .instanceMethod y_Mo_owns, .code y_Mo_owns b_Mo_owns 10 (some .boolean), .methodLink R_Mo 92 y_Mo_edge, .instanceMethod y_Mo_edge, .code y_Mo_edge b_Mo_edge 8 (some .long), .methodLink R_La 58 y_Mo_last, .instanceMethod y_Mo_last, .selects R_Mo y_Mo_last y_Mo_last, .code y_Mo_last b_Mo_last 4 (some .int), .methodLink R_La 62 y_Mo_near, .instanceMethod y_Mo_near, .selects R_Mo y_Mo_near y_Mo_near, .code y_Mo_near b_Mo_near 4 (some .int), .methodLink R_Mo 107 y_Mo_weight, .instanceMethod y_Mo_weight, .code y_Mo_weight b_Mo_weight 5 (some .long), .methodLink R_La 67 y_Mo_number, .instanceMethod y_Mo_number, .selects R_Mo y_Mo_number y_Mo_number, .code y_Mo_number b_Mo_number 10 (some .int), .methodLink R_La 71 y_Mo_covered]
def W0_7 : List Cond := [.instanceMethod y_Mo_covered, .selects R_Mo y_Mo_covered y_Mo_covered, .code y_Mo_covered b_Mo_covered 5 (some .int)]
def W0 : List Cond := W0_0 ++ (W0_1 ++ (W0_2 ++ (W0_3 ++ (W0_4 ++ (W0_5 ++ (W0_6 ++ (W0_7)))))))
theorem w0_0 {w : Cond} (h : w ∈ W0_0) : w ∈ W0 := List.mem_append_left _ h
set_option maxRecDepth 20000 in
theorem w0i_0 : W0_0 = ([0, 1, 2, 3, 4, 5, 6, 7, 8, 9, 10, 11, 12, 13, 14, 15, 16, 17, 18, 19, 20, 21, 22, 23, 24, 25, 26, 27, 28, 29, 30, 31, 32, 33, 34, 35, 36, 37, 38, 39, 40, 41, 42, 43, 44, 45, 46, 47, 48, 49] : List Nat).filterMap (fun i => lw_tbl[i]?) := by decide +kernel
theorem w0g_0 : W0_0.all goodWord = true := by decide +kernel
theorem w0_1 {w : Cond} (h : w ∈ W0_1) : w ∈ W0 := List.mem_append_right _ (List.mem_append_left _ h)
set_option maxRecDepth 20000 in
theorem w0i_1 : W0_1 = ([50, 51, 52, 53, 54, 55, 56, 58, 59, 60, 61, 62, 64, 66, 69, 72, 73, 74, 75, 77, 78, 79, 80, 81, 82, 84, 86, 88, 90, 92, 95, 96, 97, 98, 99, 100, 101, 102, 103, 104, 106, 108, 110, 112, 114, 116, 118, 121, 122, 123] : List Nat).filterMap (fun i => lw_tbl[i]?) := by decide +kernel
theorem w0g_1 : W0_1.all goodWord = true := by decide +kernel
theorem w0_2 {w : Cond} (h : w ∈ W0_2) : w ∈ W0 := List.mem_append_right _ (List.mem_append_right _ (List.mem_append_left _ h))
set_option maxRecDepth 20000 in
theorem w0i_2 : W0_2 = ([124, 125, 126, 127, 128, 131, 132, 133, 134, 135, 136, 137, 140, 141, 142, 143, 144, 145, 146, 147, 148, 149, 150, 151, 152, 153, 154, 155, 156, 159, 160, 163, 164, 165, 166, 168, 169, 170, 171, 173, 174, 175, 177, 178, 180, 181, 183, 184, 185, 186] : List Nat).filterMap (fun i => lw_tbl[i]?) := by decide +kernel
theorem w0g_2 : W0_2.all goodWord = true := by decide +kernel
theorem w0_3 {w : Cond} (h : w ∈ W0_3) : w ∈ W0 := List.mem_append_right _ (List.mem_append_right _ (List.mem_append_right _ (List.mem_append_left _ h)))
set_option maxRecDepth 20000 in
theorem w0i_3 : W0_3 = ([187, 188, 189, 190, 191, 193, 194, 195, 196, 197, 198, 200, 201, 204, 205, 206, 208, 209, 212, 213, 214, 215, 216, 217, 220, 221, 222, 224, 225, 226, 227, 228, 229, 231, 232, 233, 234, 235, 237, 238, 239, 241, 242, 243, 245, 246, 247, 249, 250, 251] : List Nat).filterMap (fun i => lw_tbl[i]?) := by decide +kernel
theorem w0g_3 : W0_3.all goodWord = true := by decide +kernel
theorem w0_4 {w : Cond} (h : w ∈ W0_4) : w ∈ W0 := List.mem_append_right _ (List.mem_append_right _ (List.mem_append_right _ (List.mem_append_right _ (List.mem_append_left _ h))))
set_option maxRecDepth 20000 in
theorem w0i_4 : W0_4 = ([252, 253, 254, 255, 256, 257, 258, 259, 260, 261, 262, 263, 264, 265, 267, 268, 269, 271, 272, 273, 274, 275, 276, 277, 278, 279, 280, 281, 282, 283, 284, 285, 286, 287, 288, 289, 290, 291, 292, 293, 294, 295, 296, 297, 298, 299, 300, 301, 302, 303] : List Nat).filterMap (fun i => lw_tbl[i]?) := by decide +kernel
theorem w0g_4 : W0_4.all goodWord = true := by decide +kernel
theorem w0_5 {w : Cond} (h : w ∈ W0_5) : w ∈ W0 := List.mem_append_right _ (List.mem_append_right _ (List.mem_append_right _ (List.mem_append_right _ (List.mem_append_right _ (List.mem_append_left _ h)))))
set_option maxRecDepth 20000 in
theorem w0i_5 : W0_5 = ([305, 307, 309, 311, 313, 315, 317, 319, 321, 323, 325, 328, 329, 330, 331, 332, 333, 334, 335, 336, 337, 338, 339, 340, 341, 342, 343, 344, 345, 346, 347, 348, 349, 350, 351, 352, 353, 354, 355, 357, 358, 359, 361, 362, 363, 364, 366, 367, 368, 369] : List Nat).filterMap (fun i => lw_tbl[i]?) := by decide +kernel
theorem w0g_5 : W0_5.all goodWord = true := by decide +kernel
theorem w0_6 {w : Cond} (h : w ∈ W0_6) : w ∈ W0 := List.mem_append_right _ (List.mem_append_right _ (List.mem_append_right _ (List.mem_append_right _ (List.mem_append_right _ (List.mem_append_right _ (List.mem_append_left _ h))))))
set_option maxRecDepth 20000 in
theorem w0i_6 : W0_6 = ([370, 371, 373, 374, 375, 376, 377, 378, 380, 381, 382, 383, 384, 385, 386, 387, 388, 389, 390, 391, 392, 393, 394, 396, 397, 398, 400, 401, 402, 404, 405, 406, 408, 409, 410, 411, 412, 413, 414, 415, 416, 417, 418, 420, 421, 422, 423, 424, 425, 426] : List Nat).filterMap (fun i => lw_tbl[i]?) := by decide +kernel
theorem w0g_6 : W0_6.all goodWord = true := by decide +kernel
theorem w0_7 {w : Cond} (h : w ∈ W0_7) : w ∈ W0 := List.mem_append_right _ (List.mem_append_right _ (List.mem_append_right _ (List.mem_append_right _ (List.mem_append_right _ (List.mem_append_right _ (List.mem_append_right _ (h)))))))
set_option maxRecDepth 20000 in
theorem w0i_7 : W0_7 = ([427, 428, 429] : List Nat).filterMap (fun i => lw_tbl[i]?) := by decide +kernel
theorem w0g_7 : W0_7.all goodWord = true := by decide +kernel
theorem wd_0 : Cond.selects R_Ri y_Ri_addRow y_Ri_addRow ∈ W0 := w0_0 (List.mem_of_getElem? (i := 0) rfl)
theorem wd_1 : Cond.selects R_Ri y_Ri_has y_Ri_has ∈ W0 := w0_0 (List.mem_of_getElem? (i := 1) rfl)
theorem wd_2 : Cond.selects R_Ri y_Ri_put y_Ri_put ∈ W0 := w0_0 (List.mem_of_getElem? (i := 2) rfl)
theorem wd_3 : Cond.selects R_Ri y_Ri_clear y_Ri_clear ∈ W0 := w0_0 (List.mem_of_getElem? (i := 3) rfl)
theorem wd_4 : Cond.selects R_Ri y_Ri_addCopy y_Ri_addCopy ∈ W0 := w0_0 (List.mem_of_getElem? (i := 4) rfl)
theorem wd_5 : Cond.selects R_Ri y_Ri_at y_Ri_at ∈ W0 := w0_0 (List.mem_of_getElem? (i := 5) rfl)
theorem wd_6 : Cond.selects R_PC y_PC_cutBySide y_PC_cutBySide ∈ W0 := w0_0 (List.mem_of_getElem? (i := 6) rfl)
theorem wd_7 : Cond.selects R_PC y_PC_sideNumber y_PC_sideNumber ∈ W0 := w0_0 (List.mem_of_getElem? (i := 7) rfl)
theorem wd_8 : Cond.selects R_PC y_PC_addBetween y_PC_addBetween ∈ W0 := w0_0 (List.mem_of_getElem? (i := 8) rfl)
theorem wd_9 : Cond.selects R_PC y_PC_layOnPicture y_PC_layOnPicture ∈ W0 := w0_0 (List.mem_of_getElem? (i := 9) rfl)
theorem wd_10 : Cond.selects R_PC y_PC_divide y_PC_divide ∈ W0 := w0_0 (List.mem_of_getElem? (i := 10) rfl)
theorem wd_11 : Cond.selects R_Fa y_Fa_clear y_Fa_clear ∈ W0 := w0_0 (List.mem_of_getElem? (i := 11) rfl)
theorem wd_12 : Cond.selects R_PC y_PC_areaWith y_PC_areaWith ∈ W0 := w0_0 (List.mem_of_getElem? (i := 12) rfl)
theorem wd_13 : Cond.selects R_Fa y_Fa_add y_Fa_add ∈ W0 := w0_0 (List.mem_of_getElem? (i := 13) rfl)
theorem wd_14 : Cond.selects R_Fa y_Fa_corner y_Fa_corner ∈ W0 := w0_0 (List.mem_of_getElem? (i := 14) rfl)
theorem wd_15 : Cond.selects R_Fa y_Fa_has y_Fa_has ∈ W0 := w0_0 (List.mem_of_getElem? (i := 15) rfl)
theorem wd_16 : Cond.selects R_PC y_PC_covers y_PC_covers ∈ W0 := w0_0 (List.mem_of_getElem? (i := 16) rfl)
theorem wd_17 : Cond.selects R_PC y_PC_isPixel y_PC_isPixel ∈ W0 := w0_0 (List.mem_of_getElem? (i := 17) rfl)
theorem wd_18 : Cond.selects R_PC y_PC_isInside y_PC_isInside ∈ W0 := w0_0 (List.mem_of_getElem? (i := 18) rfl)
theorem wd_19 : Cond.selects R_PC y_PC_edgeNumber y_PC_edgeNumber ∈ W0 := w0_0 (List.mem_of_getElem? (i := 19) rfl)
theorem wd_20 : Cond.selects R_PC y_PC_weightSum y_PC_weightSum ∈ W0 := w0_0 (List.mem_of_getElem? (i := 20) rfl)
theorem wd_21 : Cond.selects R_PC y_PC_weight y_PC_weight ∈ W0 := w0_0 (List.mem_of_getElem? (i := 21) rfl)
theorem wd_22 : Cond.selects R_Mo y_Mo_cutBy y_Mo_cutBy ∈ W0 := w0_0 (List.mem_of_getElem? (i := 22) rfl)
theorem wd_23 : Cond.selects R_Mo y_Mo_number2 y_Mo_number2 ∈ W0 := w0_0 (List.mem_of_getElem? (i := 23) rfl)
theorem wd_24 : Cond.selects R_Mo y_Mo_between y_Mo_between ∈ W0 := w0_0 (List.mem_of_getElem? (i := 24) rfl)
theorem wd_25 : Cond.selects R_Mo y_Mo_lay y_Mo_lay ∈ W0 := w0_0 (List.mem_of_getElem? (i := 25) rfl)
theorem wd_26 : Cond.selects R_Mo y_Mo_areaOf y_Mo_areaOf ∈ W0 := w0_0 (List.mem_of_getElem? (i := 26) rfl)
theorem wd_27 : Cond.selects R_Mo y_Mo_covers y_Mo_covers ∈ W0 := w0_0 (List.mem_of_getElem? (i := 27) rfl)
theorem wd_28 : Cond.selects R_Mo y_Mo_isPixel y_Mo_isPixel ∈ W0 := w0_0 (List.mem_of_getElem? (i := 28) rfl)
theorem wd_29 : Cond.selects R_Mo y_Mo_owns y_Mo_owns ∈ W0 := w0_0 (List.mem_of_getElem? (i := 29) rfl)
theorem wd_30 : Cond.selects R_Mo y_Mo_edge y_Mo_edge ∈ W0 := w0_0 (List.mem_of_getElem? (i := 30) rfl)
theorem wd_31 : Cond.selects R_Mo y_Mo_weight y_Mo_weight ∈ W0 := w0_0 (List.mem_of_getElem? (i := 31) rfl)
theorem wd_32 : Cond.initialized R_La ∈ W0 := w0_0 (List.mem_of_getElem? (i := 32) rfl)
theorem wd_33 : Cond.initialized R_PC ∈ W0 := w0_0 (List.mem_of_getElem? (i := 33) rfl)
theorem wd_34 : Cond.initialized "java/lang/Math" ∈ W0 := w0_0 (List.mem_of_getElem? (i := 34) rfl)
theorem wd_35 : Cond.initialized R_Ri ∈ W0 := w0_0 (List.mem_of_getElem? (i := 35) rfl)
theorem wd_36 : Cond.initialized R_Fa ∈ W0 := w0_0 (List.mem_of_getElem? (i := 36) rfl)
theorem wd_37 : Cond.initialized R_Mo ∈ W0 := w0_0 (List.mem_of_getElem? (i := 37) rfl)
theorem wd_38 : Cond.classLink R_La 7 R_PC ∈ W0 := w0_0 (List.mem_of_getElem? (i := 38) rfl)
theorem wd_39 : Cond.instantiable R_PC 8 ∈ W0 := w0_0 (List.mem_of_getElem? (i := 39) rfl)
theorem wd_40 : Cond.methodLink R_La 15 y_PC_init ∈ W0 := w0_0 (List.mem_of_getElem? (i := 40) rfl)
theorem wd_41 : Cond.instanceMethod y_PC_init ∈ W0 := w0_0 (List.mem_of_getElem? (i := 41) rfl)
theorem wd_42 : Cond.code y_PC_init b_PC_init 4 none ∈ W0 := w0_0 (List.mem_of_getElem? (i := 42) rfl)
theorem wd_43 : Cond.methodLink R_PC 3 objectInit ∈ W0 := w0_0 (List.mem_of_getElem? (i := 43) rfl)
theorem wd_44 : Cond.instanceMethod objectInit ∈ W0 := w0_0 (List.mem_of_getElem? (i := 44) rfl)
theorem wd_45 : Cond.code objectInit ⟨#[0xb1]⟩ 1 none ∈ W0 := w0_0 (List.mem_of_getElem? (i := 45) rfl)
theorem wd_46 : Cond.methodLink R_PC 9 y_PC_pictureSize ∈ W0 := w0_0 (List.mem_of_getElem? (i := 46) rfl)
theorem wd_47 : Cond.static y_PC_pictureSize ∈ W0 := w0_0 (List.mem_of_getElem? (i := 47) rfl)
theorem wd_48 : Cond.code y_PC_pictureSize b_PC_pictureSize 1 (some .int) ∈ W0 := w0_0 (List.mem_of_getElem? (i := 48) rfl)
theorem wd_49 : Cond.methodLink R_PC 122 Lib.Math.min.name ∈ W0 := w0_0 (List.mem_of_getElem? (i := 49) rfl)
theorem wd_50 : Cond.static Lib.Math.min.name ∈ W0 := w0_1 (List.mem_of_getElem? (i := 0) rfl)
theorem wd_51 : Cond.code Lib.Math.min.name Lib.Math.min.code 2 (some .int) ∈ W0 := w0_1 (List.mem_of_getElem? (i := 1) rfl)
theorem wd_52 : Cond.methodLink R_PC 127 Lib.Math.max.name ∈ W0 := w0_1 (List.mem_of_getElem? (i := 2) rfl)
theorem wd_53 : Cond.static Lib.Math.max.name ∈ W0 := w0_1 (List.mem_of_getElem? (i := 3) rfl)
theorem wd_54 : Cond.code Lib.Math.max.name Lib.Math.max.code 2 (some .int) ∈ W0 := w0_1 (List.mem_of_getElem? (i := 4) rfl)
theorem wd_55 : Cond.classLink R_PC 23 R_Ri ∈ W0 := w0_1 (List.mem_of_getElem? (i := 5) rfl)
theorem wd_56 : Cond.instantiable R_Ri 2 ∈ W0 := w0_1 (List.mem_of_getElem? (i := 6) rfl)
theorem wd_57 : Cond.instanceMethod y_Ri_init ∈ W0 := w0_1 (List.mem_of_getElem? (i := 7) rfl)
theorem wd_58 : Cond.code y_Ri_init b_Ri_init 1 none ∈ W0 := w0_1 (List.mem_of_getElem? (i := 8) rfl)
theorem wd_59 : Cond.methodLink R_Ri 3 objectInit ∈ W0 := w0_1 (List.mem_of_getElem? (i := 9) rfl)
theorem wd_60 : Cond.fieldLink R_Ri 9 "PieceCutter$Ring" "numbers" "[J" ∈ W0 := w0_1 (List.mem_of_getElem? (i := 10) rfl)
theorem wd_61 : Cond.fieldLink R_Ri 15 "PieceCutter$Ring" "size" "I" ∈ W0 := w0_1 (List.mem_of_getElem? (i := 11) rfl)
theorem wd_62 : Cond.laysFinal "PieceCutter$Ring" "PieceCutter$Ring" "numbers" "[J" ∈ W0 := w0_1 (List.mem_of_getElem? (i := 12) rfl)
theorem wd_63 : Cond.lays "PieceCutter$Ring" "PieceCutter$Ring" "size" "I" ∈ W0 := w0_1 (List.mem_of_getElem? (i := 13) rfl)
theorem wd_64 : Cond.arrayClass .long ∈ W0 := w0_1 (List.mem_of_getElem? (i := 14) rfl)
theorem wd_65 : Cond.instanceMethod y_Ri_addRow ∈ W0 := w0_1 (List.mem_of_getElem? (i := 15) rfl)
theorem wd_66 : Cond.code y_Ri_addRow b_Ri_addRow 1 (some .int) ∈ W0 := w0_1 (List.mem_of_getElem? (i := 16) rfl)
theorem wd_67 : Cond.classLink R_PC 43 R_Fa ∈ W0 := w0_1 (List.mem_of_getElem? (i := 17) rfl)
theorem wd_68 : Cond.instantiable R_Fa 4 ∈ W0 := w0_1 (List.mem_of_getElem? (i := 18) rfl)
theorem wd_69 : Cond.instanceMethod y_Fa_init ∈ W0 := w0_1 (List.mem_of_getElem? (i := 19) rfl)
theorem wd_70 : Cond.code y_Fa_init b_Fa_init 1 none ∈ W0 := w0_1 (List.mem_of_getElem? (i := 20) rfl)
theorem wd_71 : Cond.methodLink R_Fa 3 objectInit ∈ W0 := w0_1 (List.mem_of_getElem? (i := 21) rfl)
theorem wd_72 : Cond.fieldLink R_Fa 9 "PieceCutter$Fan" "seconds" "[I" ∈ W0 := w0_1 (List.mem_of_getElem? (i := 22) rfl)
theorem wd_73 : Cond.fieldLink R_Fa 15 "PieceCutter$Fan" "thirds" "[I" ∈ W0 := w0_1 (List.mem_of_getElem? (i := 23) rfl)
theorem wd_74 : Cond.fieldLink R_Fa 18 "PieceCutter$Fan" "areas" "[I" ∈ W0 := w0_1 (List.mem_of_getElem? (i := 24) rfl)
theorem wd_75 : Cond.fieldLink R_Fa 21 "PieceCutter$Fan" "size" "I" ∈ W0 := w0_1 (List.mem_of_getElem? (i := 25) rfl)
theorem wd_76 : Cond.laysFinal "PieceCutter$Fan" "PieceCutter$Fan" "seconds" "[I" ∈ W0 := w0_1 (List.mem_of_getElem? (i := 26) rfl)
theorem wd_77 : Cond.laysFinal "PieceCutter$Fan" "PieceCutter$Fan" "thirds" "[I" ∈ W0 := w0_1 (List.mem_of_getElem? (i := 27) rfl)
theorem wd_78 : Cond.laysFinal "PieceCutter$Fan" "PieceCutter$Fan" "areas" "[I" ∈ W0 := w0_1 (List.mem_of_getElem? (i := 28) rfl)
theorem wd_79 : Cond.lays "PieceCutter$Fan" "PieceCutter$Fan" "size" "I" ∈ W0 := w0_1 (List.mem_of_getElem? (i := 29) rfl)
theorem wd_80 : Cond.arrayClass .int ∈ W0 := w0_1 (List.mem_of_getElem? (i := 30) rfl)
theorem wd_81 : Cond.fieldLink R_PC 13 "PieceCutter" "width" "I" ∈ W0 := w0_1 (List.mem_of_getElem? (i := 31) rfl)
theorem wd_82 : Cond.fieldLink R_PC 17 "PieceCutter" "height" "I" ∈ W0 := w0_1 (List.mem_of_getElem? (i := 32) rfl)
theorem wd_83 : Cond.fieldLink R_PC 20 "PieceCutter" "focusNow" "I" ∈ W0 := w0_1 (List.mem_of_getElem? (i := 33) rfl)
theorem wd_84 : Cond.fieldLink R_PC 26 "PieceCutter" "given" "LPieceCutter$Ring;" ∈ W0 := w0_1 (List.mem_of_getElem? (i := 34) rfl)
theorem wd_85 : Cond.fieldLink R_PC 34 "PieceCutter" "kept" "LPieceCutter$Ring;" ∈ W0 := w0_1 (List.mem_of_getElem? (i := 35) rfl)
theorem wd_86 : Cond.fieldLink R_PC 37 "PieceCutter" "spare" "LPieceCutter$Ring;" ∈ W0 := w0_1 (List.mem_of_getElem? (i := 36) rfl)
theorem wd_87 : Cond.fieldLink R_PC 40 "PieceCutter" "picture" "LPieceCutter$Ring;" ∈ W0 := w0_1 (List.mem_of_getElem? (i := 37) rfl)
theorem wd_88 : Cond.fieldLink R_PC 46 "PieceCutter" "fan" "LPieceCutter$Fan;" ∈ W0 := w0_1 (List.mem_of_getElem? (i := 38) rfl)
theorem wd_89 : Cond.laysFinal "PieceCutter" "PieceCutter" "width" "I" ∈ W0 := w0_1 (List.mem_of_getElem? (i := 39) rfl)
theorem wd_90 : Cond.laysFinal "PieceCutter" "PieceCutter" "height" "I" ∈ W0 := w0_1 (List.mem_of_getElem? (i := 40) rfl)
theorem wd_91 : Cond.lays "PieceCutter" "PieceCutter" "focusNow" "I" ∈ W0 := w0_1 (List.mem_of_getElem? (i := 41) rfl)
theorem wd_92 : Cond.laysFinal "PieceCutter" "PieceCutter" "given" "LPieceCutter$Ring;" ∈ W0 := w0_1 (List.mem_of_getElem? (i := 42) rfl)
theorem wd_93 : Cond.lays "PieceCutter" "PieceCutter" "kept" "LPieceCutter$Ring;" ∈ W0 := w0_1 (List.mem_of_getElem? (i := 43) rfl)
theorem wd_94 : Cond.lays "PieceCutter" "PieceCutter" "spare" "LPieceCutter$Ring;" ∈ W0 := w0_1 (List.mem_of_getElem? (i := 44) rfl)
theorem wd_95 : Cond.laysFinal "PieceCutter" "PieceCutter" "picture" "LPieceCutter$Ring;" ∈ W0 := w0_1 (List.mem_of_getElem? (i := 45) rfl)
theorem wd_96 : Cond.laysFinal "PieceCutter" "PieceCutter" "fan" "LPieceCutter$Fan;" ∈ W0 := w0_1 (List.mem_of_getElem? (i := 46) rfl)
theorem wd_97 : Cond.methodLink R_La 21 y_PC_focus ∈ W0 := w0_1 (List.mem_of_getElem? (i := 47) rfl)
theorem wd_98 : Cond.instanceMethod y_PC_focus ∈ W0 := w0_1 (List.mem_of_getElem? (i := 48) rfl)
theorem wd_99 : Cond.selects R_PC y_PC_focus y_PC_focus ∈ W0 := w0_1 (List.mem_of_getElem? (i := 49) rfl)
theorem wd_100 : Cond.code y_PC_focus b_PC_focus 2 (some .boolean) ∈ W0 := w0_2 (List.mem_of_getElem? (i := 0) rfl)
theorem wd_101 : Cond.methodLink R_La 26 y_PC_place ∈ W0 := w0_2 (List.mem_of_getElem? (i := 1) rfl)
theorem wd_102 : Cond.instanceMethod y_PC_place ∈ W0 := w0_2 (List.mem_of_getElem? (i := 2) rfl)
theorem wd_103 : Cond.selects R_PC y_PC_place y_PC_place ∈ W0 := w0_2 (List.mem_of_getElem? (i := 3) rfl)
theorem wd_104 : Cond.code y_PC_place b_PC_place 5 (some .boolean) ∈ W0 := w0_2 (List.mem_of_getElem? (i := 4) rfl)
theorem wd_105 : Cond.instanceMethod y_Ri_has ∈ W0 := w0_2 (List.mem_of_getElem? (i := 5) rfl)
theorem wd_106 : Cond.code y_Ri_has b_Ri_has 2 (some .boolean) ∈ W0 := w0_2 (List.mem_of_getElem? (i := 6) rfl)
theorem wd_107 : Cond.methodLink R_PC 54 y_PC_isPlace ∈ W0 := w0_2 (List.mem_of_getElem? (i := 7) rfl)
theorem wd_108 : Cond.static y_PC_isPlace ∈ W0 := w0_2 (List.mem_of_getElem? (i := 8) rfl)
theorem wd_109 : Cond.code y_PC_isPlace b_PC_isPlace 1 (some .boolean) ∈ W0 := w0_2 (List.mem_of_getElem? (i := 9) rfl)
theorem wd_110 : Cond.constant R_PC 130 (-16777216) ∈ W0 := w0_2 (List.mem_of_getElem? (i := 10) rfl)
theorem wd_111 : Cond.constant R_PC 131 16777216 ∈ W0 := w0_2 (List.mem_of_getElem? (i := 11) rfl)
theorem wd_112 : Cond.instanceMethod y_Ri_put ∈ W0 := w0_2 (List.mem_of_getElem? (i := 12) rfl)
theorem wd_113 : Cond.code y_Ri_put b_Ri_put 5 none ∈ W0 := w0_2 (List.mem_of_getElem? (i := 13) rfl)
theorem wd_114 : Cond.methodLink R_Ri 19 y_Ri_has ∈ W0 := w0_2 (List.mem_of_getElem? (i := 14) rfl)
theorem wd_115 : Cond.methodLink R_La 31 y_PC_paint ∈ W0 := w0_2 (List.mem_of_getElem? (i := 15) rfl)
theorem wd_116 : Cond.instanceMethod y_PC_paint ∈ W0 := w0_2 (List.mem_of_getElem? (i := 16) rfl)
theorem wd_117 : Cond.selects R_PC y_PC_paint y_PC_paint ∈ W0 := w0_2 (List.mem_of_getElem? (i := 17) rfl)
theorem wd_118 : Cond.code y_PC_paint b_PC_paint 5 (some .boolean) ∈ W0 := w0_2 (List.mem_of_getElem? (i := 18) rfl)
theorem wd_119 : Cond.methodLink R_PC 61 y_PC_isPaint ∈ W0 := w0_2 (List.mem_of_getElem? (i := 19) rfl)
theorem wd_120 : Cond.static y_PC_isPaint ∈ W0 := w0_2 (List.mem_of_getElem? (i := 20) rfl)
theorem wd_121 : Cond.code y_PC_isPaint b_PC_isPaint 1 (some .boolean) ∈ W0 := w0_2 (List.mem_of_getElem? (i := 21) rfl)
theorem wd_122 : Cond.constant R_PC 132 (-131072) ∈ W0 := w0_2 (List.mem_of_getElem? (i := 22) rfl)
theorem wd_123 : Cond.constant R_PC 133 131072 ∈ W0 := w0_2 (List.mem_of_getElem? (i := 23) rfl)
theorem wd_124 : Cond.constant R_PC 64 65536 ∈ W0 := w0_2 (List.mem_of_getElem? (i := 24) rfl)
theorem wd_125 : Cond.methodLink R_La 35 y_PC_cut ∈ W0 := w0_2 (List.mem_of_getElem? (i := 25) rfl)
theorem wd_126 : Cond.instanceMethod y_PC_cut ∈ W0 := w0_2 (List.mem_of_getElem? (i := 26) rfl)
theorem wd_127 : Cond.selects R_PC y_PC_cut y_PC_cut ∈ W0 := w0_2 (List.mem_of_getElem? (i := 27) rfl)
theorem wd_128 : Cond.code y_PC_cut b_PC_cut 3 (some .int) ∈ W0 := w0_2 (List.mem_of_getElem? (i := 28) rfl)
theorem wd_129 : Cond.instanceMethod y_Ri_clear ∈ W0 := w0_2 (List.mem_of_getElem? (i := 29) rfl)
theorem wd_130 : Cond.code y_Ri_clear b_Ri_clear 1 none ∈ W0 := w0_2 (List.mem_of_getElem? (i := 30) rfl)
theorem wd_131 : Cond.instanceMethod y_Ri_addCopy ∈ W0 := w0_2 (List.mem_of_getElem? (i := 31) rfl)
theorem wd_132 : Cond.code y_Ri_addCopy b_Ri_addCopy 5 none ∈ W0 := w0_2 (List.mem_of_getElem? (i := 32) rfl)
theorem wd_133 : Cond.methodLink R_Ri 23 y_Ri_addRow ∈ W0 := w0_2 (List.mem_of_getElem? (i := 33) rfl)
theorem wd_134 : Cond.methodLink R_Ri 27 y_Ri_at ∈ W0 := w0_2 (List.mem_of_getElem? (i := 34) rfl)
theorem wd_135 : Cond.instanceMethod y_Ri_at ∈ W0 := w0_2 (List.mem_of_getElem? (i := 35) rfl)
theorem wd_136 : Cond.code y_Ri_at b_Ri_at 3 (some .long) ∈ W0 := w0_2 (List.mem_of_getElem? (i := 36) rfl)
theorem wd_137 : Cond.methodLink R_Ri 31 y_Ri_put ∈ W0 := w0_2 (List.mem_of_getElem? (i := 37) rfl)
theorem wd_138 : Cond.methodLink R_PC 72 y_PC_cutBySide ∈ W0 := w0_2 (List.mem_of_getElem? (i := 38) rfl)
theorem wd_139 : Cond.instanceMethod y_PC_cutBySide ∈ W0 := w0_2 (List.mem_of_getElem? (i := 39) rfl)
theorem wd_140 : Cond.code y_PC_cutBySide b_PC_cutBySide 6 none ∈ W0 := w0_2 (List.mem_of_getElem? (i := 40) rfl)
theorem wd_141 : Cond.methodLink R_PC 138 y_PC_sideNumber ∈ W0 := w0_2 (List.mem_of_getElem? (i := 41) rfl)
theorem wd_142 : Cond.instanceMethod y_PC_sideNumber ∈ W0 := w0_2 (List.mem_of_getElem? (i := 42) rfl)
theorem wd_143 : Cond.code y_PC_sideNumber b_PC_sideNumber 9 (some .long) ∈ W0 := w0_2 (List.mem_of_getElem? (i := 43) rfl)
theorem wd_144 : Cond.constantLong R_PC 145 4096 ∈ W0 := w0_2 (List.mem_of_getElem? (i := 44) rfl)
theorem wd_145 : Cond.methodLink R_PC 141 y_PC_addBetween ∈ W0 := w0_2 (List.mem_of_getElem? (i := 45) rfl)
theorem wd_146 : Cond.instanceMethod y_PC_addBetween ∈ W0 := w0_2 (List.mem_of_getElem? (i := 46) rfl)
theorem wd_147 : Cond.code y_PC_addBetween b_PC_addBetween 14 none ∈ W0 := w0_2 (List.mem_of_getElem? (i := 47) rfl)
theorem wd_148 : Cond.methodLink R_PC 110 y_PC_div ∈ W0 := w0_2 (List.mem_of_getElem? (i := 48) rfl)
theorem wd_149 : Cond.static y_PC_div ∈ W0 := w0_2 (List.mem_of_getElem? (i := 49) rfl)
theorem wd_150 : Cond.code y_PC_div b_PC_div 4 (some .long) ∈ W0 := w0_3 (List.mem_of_getElem? (i := 0) rfl)
theorem wd_151 : Cond.methodLink R_PC 134 y_Ma_floorDiv ∈ W0 := w0_3 (List.mem_of_getElem? (i := 1) rfl)
theorem wd_152 : Cond.static y_Ma_floorDiv ∈ W0 := w0_3 (List.mem_of_getElem? (i := 2) rfl)
theorem wd_153 : Cond.code y_Ma_floorDiv b_Ma_floorDiv 6 (some .long) ∈ W0 := w0_3 (List.mem_of_getElem? (i := 3) rfl)
theorem wd_154 : Cond.methodLink R_PC 76 y_PC_layOnPicture ∈ W0 := w0_3 (List.mem_of_getElem? (i := 4) rfl)
theorem wd_155 : Cond.instanceMethod y_PC_layOnPicture ∈ W0 := w0_3 (List.mem_of_getElem? (i := 5) rfl)
theorem wd_156 : Cond.code y_PC_layOnPicture b_PC_layOnPicture 4 none ∈ W0 := w0_3 (List.mem_of_getElem? (i := 6) rfl)
theorem wd_157 : Cond.constantLong R_PC 147 16 ∈ W0 := w0_3 (List.mem_of_getElem? (i := 7) rfl)
theorem wd_158 : Cond.constantLong R_PC 149 8 ∈ W0 := w0_3 (List.mem_of_getElem? (i := 8) rfl)
theorem wd_159 : Cond.constantLong R_PC 151 4294967296 ∈ W0 := w0_3 (List.mem_of_getElem? (i := 9) rfl)
theorem wd_160 : Cond.methodLink R_PC 79 y_PC_divide ∈ W0 := w0_3 (List.mem_of_getElem? (i := 10) rfl)
theorem wd_161 : Cond.instanceMethod y_PC_divide ∈ W0 := w0_3 (List.mem_of_getElem? (i := 11) rfl)
theorem wd_162 : Cond.code y_PC_divide b_PC_divide 5 none ∈ W0 := w0_3 (List.mem_of_getElem? (i := 12) rfl)
theorem wd_163 : Cond.instanceMethod y_Fa_clear ∈ W0 := w0_3 (List.mem_of_getElem? (i := 13) rfl)
theorem wd_164 : Cond.code y_Fa_clear b_Fa_clear 1 none ∈ W0 := w0_3 (List.mem_of_getElem? (i := 14) rfl)
theorem wd_165 : Cond.methodLink R_PC 154 y_PC_areaWith ∈ W0 := w0_3 (List.mem_of_getElem? (i := 15) rfl)
theorem wd_166 : Cond.instanceMethod y_PC_areaWith ∈ W0 := w0_3 (List.mem_of_getElem? (i := 16) rfl)
theorem wd_167 : Cond.code y_PC_areaWith b_PC_areaWith 7 (some .long) ∈ W0 := w0_3 (List.mem_of_getElem? (i := 17) rfl)
theorem wd_168 : Cond.instanceMethod y_Fa_add ∈ W0 := w0_3 (List.mem_of_getElem? (i := 18) rfl)
theorem wd_169 : Cond.code y_Fa_add b_Fa_add 5 none ∈ W0 := w0_3 (List.mem_of_getElem? (i := 19) rfl)
theorem wd_170 : Cond.methodLink R_La 40 y_PC_piece ∈ W0 := w0_3 (List.mem_of_getElem? (i := 20) rfl)
theorem wd_171 : Cond.instanceMethod y_PC_piece ∈ W0 := w0_3 (List.mem_of_getElem? (i := 21) rfl)
theorem wd_172 : Cond.selects R_PC y_PC_piece y_PC_piece ∈ W0 := w0_3 (List.mem_of_getElem? (i := 22) rfl)
theorem wd_173 : Cond.code y_PC_piece b_PC_piece 4 (some .int) ∈ W0 := w0_3 (List.mem_of_getElem? (i := 23) rfl)
theorem wd_174 : Cond.instanceMethod y_Fa_corner ∈ W0 := w0_3 (List.mem_of_getElem? (i := 24) rfl)
theorem wd_175 : Cond.code y_Fa_corner b_Fa_corner 3 (some .int) ∈ W0 := w0_3 (List.mem_of_getElem? (i := 25) rfl)
theorem wd_176 : Cond.methodLink R_Fa 25 y_Fa_has ∈ W0 := w0_3 (List.mem_of_getElem? (i := 26) rfl)
theorem wd_177 : Cond.instanceMethod y_Fa_has ∈ W0 := w0_3 (List.mem_of_getElem? (i := 27) rfl)
theorem wd_178 : Cond.code y_Fa_has b_Fa_has 2 (some .boolean) ∈ W0 := w0_3 (List.mem_of_getElem? (i := 28) rfl)
theorem wd_179 : Cond.methodLink R_La 45 y_PC_area ∈ W0 := w0_3 (List.mem_of_getElem? (i := 29) rfl)
theorem wd_180 : Cond.instanceMethod y_PC_area ∈ W0 := w0_3 (List.mem_of_getElem? (i := 30) rfl)
theorem wd_181 : Cond.selects R_PC y_PC_area y_PC_area ∈ W0 := w0_3 (List.mem_of_getElem? (i := 31) rfl)
theorem wd_182 : Cond.code y_PC_area b_PC_area 2 (some .int) ∈ W0 := w0_3 (List.mem_of_getElem? (i := 32) rfl)
theorem wd_183 : Cond.methodLink R_La 50 y_PC_first ∈ W0 := w0_3 (List.mem_of_getElem? (i := 33) rfl)
theorem wd_184 : Cond.instanceMethod y_PC_first ∈ W0 := w0_3 (List.mem_of_getElem? (i := 34) rfl)
theorem wd_185 : Cond.selects R_PC y_PC_first y_PC_first ∈ W0 := w0_3 (List.mem_of_getElem? (i := 35) rfl)
theorem wd_186 : Cond.code y_PC_first b_PC_first 4 (some .int) ∈ W0 := w0_3 (List.mem_of_getElem? (i := 36) rfl)
theorem wd_187 : Cond.methodLink R_PC 99 y_PC_covers ∈ W0 := w0_3 (List.mem_of_getElem? (i := 37) rfl)
theorem wd_188 : Cond.instanceMethod y_PC_covers ∈ W0 := w0_3 (List.mem_of_getElem? (i := 38) rfl)
theorem wd_189 : Cond.code y_PC_covers b_PC_covers 5 (some .boolean) ∈ W0 := w0_3 (List.mem_of_getElem? (i := 39) rfl)
theorem wd_190 : Cond.methodLink R_PC 118 y_PC_isPixel ∈ W0 := w0_3 (List.mem_of_getElem? (i := 40) rfl)
theorem wd_191 : Cond.instanceMethod y_PC_isPixel ∈ W0 := w0_3 (List.mem_of_getElem? (i := 41) rfl)
theorem wd_192 : Cond.code y_PC_isPixel b_PC_isPixel 3 (some .boolean) ∈ W0 := w0_3 (List.mem_of_getElem? (i := 42) rfl)
theorem wd_193 : Cond.methodLink R_PC 160 y_PC_isInside ∈ W0 := w0_3 (List.mem_of_getElem? (i := 43) rfl)
theorem wd_194 : Cond.instanceMethod y_PC_isInside ∈ W0 := w0_3 (List.mem_of_getElem? (i := 44) rfl)
theorem wd_195 : Cond.code y_PC_isInside b_PC_isInside 11 (some .boolean) ∈ W0 := w0_3 (List.mem_of_getElem? (i := 45) rfl)
theorem wd_196 : Cond.methodLink R_PC 164 y_PC_edgeNumber ∈ W0 := w0_3 (List.mem_of_getElem? (i := 46) rfl)
theorem wd_197 : Cond.instanceMethod y_PC_edgeNumber ∈ W0 := w0_3 (List.mem_of_getElem? (i := 47) rfl)
theorem wd_198 : Cond.code y_PC_edgeNumber b_PC_edgeNumber 11 (some .long) ∈ W0 := w0_3 (List.mem_of_getElem? (i := 48) rfl)
theorem wd_199 : Cond.methodLink R_PC 167 y_PC_cornerAfter ∈ W0 := w0_3 (List.mem_of_getElem? (i := 49) rfl)
theorem wd_200 : Cond.static y_PC_cornerAfter ∈ W0 := w0_4 (List.mem_of_getElem? (i := 0) rfl)
theorem wd_201 : Cond.code y_PC_cornerAfter b_PC_cornerAfter 1 (some .int) ∈ W0 := w0_4 (List.mem_of_getElem? (i := 1) rfl)
theorem wd_202 : Cond.methodLink R_PC 170 y_PC_middle ∈ W0 := w0_4 (List.mem_of_getElem? (i := 2) rfl)
theorem wd_203 : Cond.static y_PC_middle ∈ W0 := w0_4 (List.mem_of_getElem? (i := 3) rfl)
theorem wd_204 : Cond.code y_PC_middle b_PC_middle 1 (some .long) ∈ W0 := w0_4 (List.mem_of_getElem? (i := 4) rfl)
theorem wd_205 : Cond.methodLink R_La 55 y_PC_last ∈ W0 := w0_4 (List.mem_of_getElem? (i := 5) rfl)
theorem wd_206 : Cond.instanceMethod y_PC_last ∈ W0 := w0_4 (List.mem_of_getElem? (i := 6) rfl)
theorem wd_207 : Cond.selects R_PC y_PC_last y_PC_last ∈ W0 := w0_4 (List.mem_of_getElem? (i := 7) rfl)
theorem wd_208 : Cond.code y_PC_last b_PC_last 4 (some .int) ∈ W0 := w0_4 (List.mem_of_getElem? (i := 8) rfl)
theorem wd_209 : Cond.methodLink R_La 59 y_PC_near ∈ W0 := w0_4 (List.mem_of_getElem? (i := 9) rfl)
theorem wd_210 : Cond.instanceMethod y_PC_near ∈ W0 := w0_4 (List.mem_of_getElem? (i := 10) rfl)
theorem wd_211 : Cond.selects R_PC y_PC_near y_PC_near ∈ W0 := w0_4 (List.mem_of_getElem? (i := 11) rfl)
theorem wd_212 : Cond.code y_PC_near b_PC_near 4 (some .int) ∈ W0 := w0_4 (List.mem_of_getElem? (i := 12) rfl)
theorem wd_213 : Cond.methodLink R_PC 103 y_PC_weightSum ∈ W0 := w0_4 (List.mem_of_getElem? (i := 13) rfl)
theorem wd_214 : Cond.instanceMethod y_PC_weightSum ∈ W0 := w0_4 (List.mem_of_getElem? (i := 14) rfl)
theorem wd_215 : Cond.code y_PC_weightSum b_PC_weightSum 4 (some .long) ∈ W0 := w0_4 (List.mem_of_getElem? (i := 15) rfl)
theorem wd_216 : Cond.methodLink R_PC 114 y_PC_weight ∈ W0 := w0_4 (List.mem_of_getElem? (i := 16) rfl)
theorem wd_217 : Cond.instanceMethod y_PC_weight ∈ W0 := w0_4 (List.mem_of_getElem? (i := 17) rfl)
theorem wd_218 : Cond.code y_PC_weight b_PC_weight 5 (some .long) ∈ W0 := w0_4 (List.mem_of_getElem? (i := 18) rfl)
theorem wd_219 : Cond.methodLink R_PC 107 y_PC_area ∈ W0 := w0_4 (List.mem_of_getElem? (i := 19) rfl)
theorem wd_220 : Cond.methodLink R_La 63 y_PC_number ∈ W0 := w0_4 (List.mem_of_getElem? (i := 20) rfl)
theorem wd_221 : Cond.instanceMethod y_PC_number ∈ W0 := w0_4 (List.mem_of_getElem? (i := 21) rfl)
theorem wd_222 : Cond.selects R_PC y_PC_number y_PC_number ∈ W0 := w0_4 (List.mem_of_getElem? (i := 22) rfl)
theorem wd_223 : Cond.code y_PC_number b_PC_number 8 (some .int) ∈ W0 := w0_4 (List.mem_of_getElem? (i := 23) rfl)
theorem wd_224 : Cond.methodLink R_La 68 y_PC_covered ∈ W0 := w0_4 (List.mem_of_getElem? (i := 24) rfl)
theorem wd_225 : Cond.instanceMethod y_PC_covered ∈ W0 := w0_4 (List.mem_of_getElem? (i := 25) rfl)
theorem wd_226 : Cond.selects R_PC y_PC_covered y_PC_covered ∈ W0 := w0_4 (List.mem_of_getElem? (i := 26) rfl)
theorem wd_227 : Cond.code y_PC_covered b_PC_covered 5 (some .int) ∈ W0 := w0_4 (List.mem_of_getElem? (i := 27) rfl)
theorem wd_228 : Cond.methodLink R_La 9 y_La_cell ∈ W0 := w0_4 (List.mem_of_getElem? (i := 28) rfl)
theorem wd_229 : Cond.static y_La_cell ∈ W0 := w0_4 (List.mem_of_getElem? (i := 29) rfl)
theorem wd_230 : Cond.code y_La_cell b_La_cell 2 (some .int) ∈ W0 := w0_4 (List.mem_of_getElem? (i := 30) rfl)
theorem wd_231 : Cond.classLink R_La 18 R_Mo ∈ W0 := w0_4 (List.mem_of_getElem? (i := 31) rfl)
theorem wd_232 : Cond.instantiable R_Mo 12 ∈ W0 := w0_4 (List.mem_of_getElem? (i := 32) rfl)
theorem wd_233 : Cond.methodLink R_La 20 y_Mo_init ∈ W0 := w0_4 (List.mem_of_getElem? (i := 33) rfl)
theorem wd_234 : Cond.instanceMethod y_Mo_init ∈ W0 := w0_4 (List.mem_of_getElem? (i := 34) rfl)
theorem wd_235 : Cond.code y_Mo_init b_Mo_init 3 none ∈ W0 := w0_4 (List.mem_of_getElem? (i := 35) rfl)
theorem wd_236 : Cond.methodLink R_Mo 1 objectInit ∈ W0 := w0_4 (List.mem_of_getElem? (i := 36) rfl)
theorem wd_237 : Cond.fieldLink R_Mo 35 "PieceCutterModel" "thrown" "I" ∈ W0 := w0_4 (List.mem_of_getElem? (i := 37) rfl)
theorem wd_238 : Cond.fieldLink R_Mo 29 "PieceCutterModel" "width" "I" ∈ W0 := w0_4 (List.mem_of_getElem? (i := 38) rfl)
theorem wd_239 : Cond.fieldLink R_Mo 32 "PieceCutterModel" "height" "I" ∈ W0 := w0_4 (List.mem_of_getElem? (i := 39) rfl)
theorem wd_240 : Cond.fieldLink R_Mo 7 "PieceCutterModel" "focus" "I" ∈ W0 := w0_4 (List.mem_of_getElem? (i := 40) rfl)
theorem wd_241 : Cond.fieldLink R_Mo 13 "PieceCutterModel" "text" "[J" ∈ W0 := w0_4 (List.mem_of_getElem? (i := 41) rfl)
theorem wd_242 : Cond.fieldLink R_Mo 17 "PieceCutterModel" "row" "[J" ∈ W0 := w0_4 (List.mem_of_getElem? (i := 42) rfl)
theorem wd_243 : Cond.fieldLink R_Mo 60 "PieceCutterModel" "many" "I" ∈ W0 := w0_4 (List.mem_of_getElem? (i := 43) rfl)
theorem wd_244 : Cond.fieldLink R_Mo 20 "PieceCutterModel" "next" "[J" ∈ W0 := w0_4 (List.mem_of_getElem? (i := 44) rfl)
theorem wd_245 : Cond.fieldLink R_Mo 53 "PieceCutterModel" "nexts" "I" ∈ W0 := w0_4 (List.mem_of_getElem? (i := 45) rfl)
theorem wd_246 : Cond.fieldLink R_Mo 23 "PieceCutterModel" "pieces" "[J" ∈ W0 := w0_4 (List.mem_of_getElem? (i := 46) rfl)
theorem wd_247 : Cond.fieldLink R_Mo 26 "PieceCutterModel" "areas" "[J" ∈ W0 := w0_4 (List.mem_of_getElem? (i := 47) rfl)
theorem wd_248 : Cond.fieldLink R_Mo 81 "PieceCutterModel" "count" "I" ∈ W0 := w0_4 (List.mem_of_getElem? (i := 48) rfl)
theorem wd_249 : Cond.lays "PieceCutterModel" "PieceCutterModel" "thrown" "I" ∈ W0 := w0_4 (List.mem_of_getElem? (i := 49) rfl)
theorem wd_250 : Cond.laysFinal "PieceCutterModel" "PieceCutterModel" "width" "I" ∈ W0 := w0_5 (List.mem_of_getElem? (i := 0) rfl)
theorem wd_251 : Cond.laysFinal "PieceCutterModel" "PieceCutterModel" "height" "I" ∈ W0 := w0_5 (List.mem_of_getElem? (i := 1) rfl)
theorem wd_252 : Cond.lays "PieceCutterModel" "PieceCutterModel" "focus" "I" ∈ W0 := w0_5 (List.mem_of_getElem? (i := 2) rfl)
theorem wd_253 : Cond.laysFinal "PieceCutterModel" "PieceCutterModel" "text" "[J" ∈ W0 := w0_5 (List.mem_of_getElem? (i := 3) rfl)
theorem wd_254 : Cond.lays "PieceCutterModel" "PieceCutterModel" "row" "[J" ∈ W0 := w0_5 (List.mem_of_getElem? (i := 4) rfl)
theorem wd_255 : Cond.lays "PieceCutterModel" "PieceCutterModel" "many" "I" ∈ W0 := w0_5 (List.mem_of_getElem? (i := 5) rfl)
theorem wd_256 : Cond.lays "PieceCutterModel" "PieceCutterModel" "next" "[J" ∈ W0 := w0_5 (List.mem_of_getElem? (i := 6) rfl)
theorem wd_257 : Cond.lays "PieceCutterModel" "PieceCutterModel" "nexts" "I" ∈ W0 := w0_5 (List.mem_of_getElem? (i := 7) rfl)
theorem wd_258 : Cond.laysFinal "PieceCutterModel" "PieceCutterModel" "pieces" "[J" ∈ W0 := w0_5 (List.mem_of_getElem? (i := 8) rfl)
theorem wd_259 : Cond.laysFinal "PieceCutterModel" "PieceCutterModel" "areas" "[J" ∈ W0 := w0_5 (List.mem_of_getElem? (i := 9) rfl)
theorem wd_260 : Cond.lays "PieceCutterModel" "PieceCutterModel" "count" "I" ∈ W0 := w0_5 (List.mem_of_getElem? (i := 10) rfl)
theorem wd_261 : Cond.methodLink R_La 25 y_Mo_focus ∈ W0 := w0_5 (List.mem_of_getElem? (i := 11) rfl)
theorem wd_262 : Cond.instanceMethod y_Mo_focus ∈ W0 := w0_5 (List.mem_of_getElem? (i := 12) rfl)
theorem wd_263 : Cond.selects R_Mo y_Mo_focus y_Mo_focus ∈ W0 := w0_5 (List.mem_of_getElem? (i := 13) rfl)
theorem wd_264 : Cond.code y_Mo_focus b_Mo_focus 2 (some .boolean) ∈ W0 := w0_5 (List.mem_of_getElem? (i := 14) rfl)
theorem wd_265 : Cond.methodLink R_Mo 38 y_Mo_within ∈ W0 := w0_5 (List.mem_of_getElem? (i := 15) rfl)
theorem wd_266 : Cond.static y_Mo_within ∈ W0 := w0_5 (List.mem_of_getElem? (i := 16) rfl)
theorem wd_267 : Cond.code y_Mo_within b_Mo_within 3 (some .boolean) ∈ W0 := w0_5 (List.mem_of_getElem? (i := 17) rfl)
theorem wd_268 : Cond.methodLink R_La 30 y_Mo_place ∈ W0 := w0_5 (List.mem_of_getElem? (i := 18) rfl)
theorem wd_269 : Cond.instanceMethod y_Mo_place ∈ W0 := w0_5 (List.mem_of_getElem? (i := 19) rfl)
theorem wd_270 : Cond.selects R_Mo y_Mo_place y_Mo_place ∈ W0 := w0_5 (List.mem_of_getElem? (i := 20) rfl)
theorem wd_271 : Cond.code y_Mo_place b_Mo_place 5 (some .boolean) ∈ W0 := w0_5 (List.mem_of_getElem? (i := 21) rfl)
theorem wd_272 : Cond.methodLink R_Mo 44 y_Mo_far ∈ W0 := w0_5 (List.mem_of_getElem? (i := 22) rfl)
theorem wd_273 : Cond.static y_Mo_far ∈ W0 := w0_5 (List.mem_of_getElem? (i := 23) rfl)
theorem wd_274 : Cond.code y_Mo_far b_Mo_far 1 (some .boolean) ∈ W0 := w0_5 (List.mem_of_getElem? (i := 24) rfl)
theorem wd_275 : Cond.constant R_Mo 42 (-16777216) ∈ W0 := w0_5 (List.mem_of_getElem? (i := 25) rfl)
theorem wd_276 : Cond.constant R_Mo 43 16777216 ∈ W0 := w0_5 (List.mem_of_getElem? (i := 26) rfl)
theorem wd_277 : Cond.methodLink R_La 34 y_Mo_paint ∈ W0 := w0_5 (List.mem_of_getElem? (i := 27) rfl)
theorem wd_278 : Cond.instanceMethod y_Mo_paint ∈ W0 := w0_5 (List.mem_of_getElem? (i := 28) rfl)
theorem wd_279 : Cond.selects R_Mo y_Mo_paint y_Mo_paint ∈ W0 := w0_5 (List.mem_of_getElem? (i := 29) rfl)
theorem wd_280 : Cond.code y_Mo_paint b_Mo_paint 5 (some .boolean) ∈ W0 := w0_5 (List.mem_of_getElem? (i := 30) rfl)
theorem wd_281 : Cond.constant R_Mo 48 (-131072) ∈ W0 := w0_5 (List.mem_of_getElem? (i := 31) rfl)
theorem wd_282 : Cond.constant R_Mo 49 131072 ∈ W0 := w0_5 (List.mem_of_getElem? (i := 32) rfl)
theorem wd_283 : Cond.constant R_Mo 50 65536 ∈ W0 := w0_5 (List.mem_of_getElem? (i := 33) rfl)
theorem wd_284 : Cond.methodLink R_La 39 y_Mo_cut ∈ W0 := w0_5 (List.mem_of_getElem? (i := 34) rfl)
theorem wd_285 : Cond.instanceMethod y_Mo_cut ∈ W0 := w0_5 (List.mem_of_getElem? (i := 35) rfl)
theorem wd_286 : Cond.selects R_Mo y_Mo_cut y_Mo_cut ∈ W0 := w0_5 (List.mem_of_getElem? (i := 36) rfl)
theorem wd_287 : Cond.code y_Mo_cut b_Mo_cut 3 (some .int) ∈ W0 := w0_5 (List.mem_of_getElem? (i := 37) rfl)
theorem wd_288 : Cond.methodLink R_Mo 77 y_Mo_cutBy ∈ W0 := w0_5 (List.mem_of_getElem? (i := 38) rfl)
theorem wd_289 : Cond.instanceMethod y_Mo_cutBy ∈ W0 := w0_5 (List.mem_of_getElem? (i := 39) rfl)
theorem wd_290 : Cond.code y_Mo_cutBy b_Mo_cutBy 9 none ∈ W0 := w0_5 (List.mem_of_getElem? (i := 40) rfl)
theorem wd_291 : Cond.methodLink R_Mo 63 y_Mo_number2 ∈ W0 := w0_5 (List.mem_of_getElem? (i := 41) rfl)
theorem wd_292 : Cond.instanceMethod y_Mo_number2 ∈ W0 := w0_5 (List.mem_of_getElem? (i := 42) rfl)
theorem wd_293 : Cond.code y_Mo_number2 b_Mo_number2 9 (some .long) ∈ W0 := w0_5 (List.mem_of_getElem? (i := 43) rfl)
theorem wd_294 : Cond.constantLong R_Mo 51 4096 ∈ W0 := w0_5 (List.mem_of_getElem? (i := 44) rfl)
theorem wd_295 : Cond.methodLink R_Mo 67 y_Mo_between ∈ W0 := w0_5 (List.mem_of_getElem? (i := 45) rfl)
theorem wd_296 : Cond.instanceMethod y_Mo_between ∈ W0 := w0_5 (List.mem_of_getElem? (i := 46) rfl)
theorem wd_297 : Cond.code y_Mo_between b_Mo_between 8 none ∈ W0 := w0_5 (List.mem_of_getElem? (i := 47) rfl)
theorem wd_298 : Cond.methodLink R_Mo 56 y_Mo_div ∈ W0 := w0_5 (List.mem_of_getElem? (i := 48) rfl)
theorem wd_299 : Cond.static y_Mo_div ∈ W0 := w0_5 (List.mem_of_getElem? (i := 49) rfl)
theorem wd_300 : Cond.code y_Mo_div b_Mo_div 6 (some .long) ∈ W0 := w0_6 (List.mem_of_getElem? (i := 0) rfl)
theorem wd_301 : Cond.methodLink R_Mo 84 y_Mo_lay ∈ W0 := w0_6 (List.mem_of_getElem? (i := 1) rfl)
theorem wd_302 : Cond.instanceMethod y_Mo_lay ∈ W0 := w0_6 (List.mem_of_getElem? (i := 2) rfl)
theorem wd_303 : Cond.code y_Mo_lay b_Mo_lay 8 none ∈ W0 := w0_6 (List.mem_of_getElem? (i := 3) rfl)
theorem wd_304 : Cond.constantLong R_Mo 71 16 ∈ W0 := w0_6 (List.mem_of_getElem? (i := 4) rfl)
theorem wd_305 : Cond.constantLong R_Mo 73 8 ∈ W0 := w0_6 (List.mem_of_getElem? (i := 5) rfl)
theorem wd_306 : Cond.constantLong R_Mo 75 4294967296 ∈ W0 := w0_6 (List.mem_of_getElem? (i := 6) rfl)
theorem wd_307 : Cond.methodLink R_Mo 88 y_Mo_areaOf ∈ W0 := w0_6 (List.mem_of_getElem? (i := 7) rfl)
theorem wd_308 : Cond.instanceMethod y_Mo_areaOf ∈ W0 := w0_6 (List.mem_of_getElem? (i := 8) rfl)
theorem wd_309 : Cond.code y_Mo_areaOf b_Mo_areaOf 3 (some .long) ∈ W0 := w0_6 (List.mem_of_getElem? (i := 9) rfl)
theorem wd_310 : Cond.methodLink R_La 44 y_Mo_piece ∈ W0 := w0_6 (List.mem_of_getElem? (i := 10) rfl)
theorem wd_311 : Cond.instanceMethod y_Mo_piece ∈ W0 := w0_6 (List.mem_of_getElem? (i := 11) rfl)
theorem wd_312 : Cond.selects R_Mo y_Mo_piece y_Mo_piece ∈ W0 := w0_6 (List.mem_of_getElem? (i := 12) rfl)
theorem wd_313 : Cond.code y_Mo_piece b_Mo_piece 4 (some .int) ∈ W0 := w0_6 (List.mem_of_getElem? (i := 13) rfl)
theorem wd_314 : Cond.methodLink R_La 49 y_Mo_area ∈ W0 := w0_6 (List.mem_of_getElem? (i := 14) rfl)
theorem wd_315 : Cond.instanceMethod y_Mo_area ∈ W0 := w0_6 (List.mem_of_getElem? (i := 15) rfl)
theorem wd_316 : Cond.selects R_Mo y_Mo_area y_Mo_area ∈ W0 := w0_6 (List.mem_of_getElem? (i := 16) rfl)
theorem wd_317 : Cond.code y_Mo_area b_Mo_area 2 (some .int) ∈ W0 := w0_6 (List.mem_of_getElem? (i := 17) rfl)
theorem wd_318 : Cond.methodLink R_La 54 y_Mo_first ∈ W0 := w0_6 (List.mem_of_getElem? (i := 18) rfl)
theorem wd_319 : Cond.instanceMethod y_Mo_first ∈ W0 := w0_6 (List.mem_of_getElem? (i := 19) rfl)
theorem wd_320 : Cond.selects R_Mo y_Mo_first y_Mo_first ∈ W0 := w0_6 (List.mem_of_getElem? (i := 20) rfl)
theorem wd_321 : Cond.code y_Mo_first b_Mo_first 4 (some .int) ∈ W0 := w0_6 (List.mem_of_getElem? (i := 21) rfl)
theorem wd_322 : Cond.methodLink R_Mo 104 y_Mo_covers ∈ W0 := w0_6 (List.mem_of_getElem? (i := 22) rfl)
theorem wd_323 : Cond.instanceMethod y_Mo_covers ∈ W0 := w0_6 (List.mem_of_getElem? (i := 23) rfl)
theorem wd_324 : Cond.code y_Mo_covers b_Mo_covers 4 (some .boolean) ∈ W0 := w0_6 (List.mem_of_getElem? (i := 24) rfl)
theorem wd_325 : Cond.methodLink R_Mo 96 y_Mo_isPixel ∈ W0 := w0_6 (List.mem_of_getElem? (i := 25) rfl)
theorem wd_326 : Cond.instanceMethod y_Mo_isPixel ∈ W0 := w0_6 (List.mem_of_getElem? (i := 26) rfl)
theorem wd_327 : Cond.code y_Mo_isPixel b_Mo_isPixel 3 (some .boolean) ∈ W0 := w0_6 (List.mem_of_getElem? (i := 27) rfl)
theorem wd_328 : Cond.methodLink R_Mo 100 y_Mo_owns ∈ W0 := w0_6 (List.mem_of_getElem? (i := 28) rfl)
theorem wd_329 : Cond.instanceMethod y_Mo_owns ∈ W0 := w0_6 (List.mem_of_getElem? (i := 29) rfl)
theorem wd_330 : Cond.code y_Mo_owns b_Mo_owns 10 (some .boolean) ∈ W0 := w0_6 (List.mem_of_getElem? (i := 30) rfl)
theorem wd_331 : Cond.methodLink R_Mo 92 y_Mo_edge ∈ W0 := w0_6 (List.mem_of_getElem? (i := 31) rfl)
theorem wd_332 : Cond.instanceMethod y_Mo_edge ∈ W0 := w0_6 (List.mem_of_getElem? (i := 32) rfl)
theorem wd_333 : Cond.code y_Mo_edge b_Mo_edge 8 (some .long) ∈ W0 := w0_6 (List.mem_of_getElem? (i := 33) rfl)
theorem wd_334 : Cond.methodLink R_La 58 y_Mo_last ∈ W0 := w0_6 (List.mem_of_getElem? (i := 34) rfl)
theorem wd_335 : Cond.instanceMethod y_Mo_last ∈ W0 := w0_6 (List.mem_of_getElem? (i := 35) rfl)
theorem wd_336 : Cond.selects R_Mo y_Mo_last y_Mo_last ∈ W0 := w0_6 (List.mem_of_getElem? (i := 36) rfl)
theorem wd_337 : Cond.code y_Mo_last b_Mo_last 4 (some .int) ∈ W0 := w0_6 (List.mem_of_getElem? (i := 37) rfl)
theorem wd_338 : Cond.methodLink R_La 62 y_Mo_near ∈ W0 := w0_6 (List.mem_of_getElem? (i := 38) rfl)
theorem wd_339 : Cond.instanceMethod y_Mo_near ∈ W0 := w0_6 (List.mem_of_getElem? (i := 39) rfl)
theorem wd_340 : Cond.selects R_Mo y_Mo_near y_Mo_near ∈ W0 := w0_6 (List.mem_of_getElem? (i := 40) rfl)
theorem wd_341 : Cond.code y_Mo_near b_Mo_near 4 (some .int) ∈ W0 := w0_6 (List.mem_of_getElem? (i := 41) rfl)
theorem wd_342 : Cond.methodLink R_Mo 107 y_Mo_weight ∈ W0 := w0_6 (List.mem_of_getElem? (i := 42) rfl)
theorem wd_343 : Cond.instanceMethod y_Mo_weight ∈ W0 := w0_6 (List.mem_of_getElem? (i := 43) rfl)
theorem wd_344 : Cond.code y_Mo_weight b_Mo_weight 5 (some .long) ∈ W0 := w0_6 (List.mem_of_getElem? (i := 44) rfl)
theorem wd_345 : Cond.methodLink R_La 67 y_Mo_number ∈ W0 := w0_6 (List.mem_of_getElem? (i := 45) rfl)
theorem wd_346 : Cond.instanceMethod y_Mo_number ∈ W0 := w0_6 (List.mem_of_getElem? (i := 46) rfl)
theorem wd_347 : Cond.selects R_Mo y_Mo_number y_Mo_number ∈ W0 := w0_6 (List.mem_of_getElem? (i := 47) rfl)
theorem wd_348 : Cond.code y_Mo_number b_Mo_number 10 (some .int) ∈ W0 := w0_6 (List.mem_of_getElem? (i := 48) rfl)
theorem wd_349 : Cond.methodLink R_La 71 y_Mo_covered ∈ W0 := w0_6 (List.mem_of_getElem? (i := 49) rfl)
theorem wd_350 : Cond.instanceMethod y_Mo_covered ∈ W0 := w0_7 (List.mem_of_getElem? (i := 0) rfl)
theorem wd_351 : Cond.selects R_Mo y_Mo_covered y_Mo_covered ∈ W0 := w0_7 (List.mem_of_getElem? (i := 1) rfl)
theorem wd_352 : Cond.code y_Mo_covered b_Mo_covered 5 (some .int) ∈ W0 := w0_7 (List.mem_of_getElem? (i := 2) rfl)
theorem w0c_all {P : Cond → Prop} (h0 : ∀ w ∈ W0_0, P w) (h1 : ∀ w ∈ W0_1, P w) (h2 : ∀ w ∈ W0_2, P w) (h3 : ∀ w ∈ W0_3, P w) (h4 : ∀ w ∈ W0_4, P w) (h5 : ∀ w ∈ W0_5, P w) (h6 : ∀ w ∈ W0_6, P w) (h7 : ∀ w ∈ W0_7, P w) : ∀ w ∈ W0, P w := by
  intro w h
  unfold W0 at h
  simp only [List.mem_append] at h
  rcases h with h | h | h | h | h | h | h | h
  · exact h0 w h
  · exact h1 w h
  · exact h2 w h
  · exact h3 w h
  · exact h4 w h
  · exact h5 w h
  · exact h6 w h
  · exact h7 w h
theorem w0p {A : List Cond} {ps : List Nat} (e : A = ps.filterMap (fun i => lw_tbl[i]?)) : ∀ w ∈ A, w ∈ lw_tbl := by
  intro w h
  rw [e] at h
  obtain ⟨i, -, hi⟩ := List.mem_filterMap.mp h
  exact List.mem_of_getElem? hi
theorem W0_in : ∀ w ∈ W0, w ∈ lw_tbl := w0c_all (w0p w0i_0) (w0p w0i_1) (w0p w0i_2) (w0p w0i_3) (w0p w0i_4) (w0p w0i_5) (w0p w0i_6) (w0p w0i_7)
theorem W0_good : ∀ w ∈ W0, (w.onTables && w.keeps) = true ∨ ∃ ty, w = .arrayClass ty := w0c_all (fun w h => good_of_word (List.all_eq_true.mp w0g_0 w h)) (fun w h => good_of_word (List.all_eq_true.mp w0g_1 w h)) (fun w h => good_of_word (List.all_eq_true.mp w0g_2 w h)) (fun w h => good_of_word (List.all_eq_true.mp w0g_3 w h)) (fun w h => good_of_word (List.all_eq_true.mp w0g_4 w h)) (fun w h => good_of_word (List.all_eq_true.mp w0g_5 w h)) (fun w h => good_of_word (List.all_eq_true.mp w0g_6 w h)) (fun w h => good_of_word (List.all_eq_true.mp w0g_7 w h))
theorem i_PC : ∀ w ∈ u_ws R_PC F_PC 8, w ∈ W0 := by decide +kernel
theorem i_Ri : ∀ w ∈ u_ws R_Ri F_Ri 2, w ∈ W0 := by decide +kernel
theorem i_Fa : ∀ w ∈ u_ws R_Fa F_Fa 4, w ∈ W0 := by decide +kernel
theorem i_Mo : ∀ w ∈ u_ws R_Mo F_Mo 12, w ∈ W0 := by decide +kernel
abbrev w_PC_init : List Cond := .code y_PC_init b_PC_init 4 none :: W0
abbrev w_PC_pictureSize : List Cond := .code y_PC_pictureSize b_PC_pictureSize 1 (some .int) :: W0
abbrev w_Ri_init : List Cond := .code y_Ri_init b_Ri_init 1 none :: W0
abbrev w_Ri_addRow : List Cond := .code y_Ri_addRow b_Ri_addRow 1 (some .int) :: W0
abbrev w_Fa_init : List Cond := .code y_Fa_init b_Fa_init 1 none :: W0
abbrev w_PC_focus : List Cond := .code y_PC_focus b_PC_focus 2 (some .boolean) :: W0
abbrev w_PC_place : List Cond := .code y_PC_place b_PC_place 5 (some .boolean) :: W0
abbrev w_Ri_has : List Cond := .code y_Ri_has b_Ri_has 2 (some .boolean) :: W0
abbrev w_PC_isPlace : List Cond := .code y_PC_isPlace b_PC_isPlace 1 (some .boolean) :: W0
abbrev w_Ri_put : List Cond := .code y_Ri_put b_Ri_put 5 none :: W0
abbrev w_PC_paint : List Cond := .code y_PC_paint b_PC_paint 5 (some .boolean) :: W0
abbrev w_PC_isPaint : List Cond := .code y_PC_isPaint b_PC_isPaint 1 (some .boolean) :: W0
abbrev w_PC_cut : List Cond := .code y_PC_cut b_PC_cut 3 (some .int) :: W0
abbrev w_Ri_clear : List Cond := .code y_Ri_clear b_Ri_clear 1 none :: W0
abbrev w_Ri_addCopy : List Cond := .code y_Ri_addCopy b_Ri_addCopy 5 none :: W0
abbrev w_Ri_at : List Cond := .code y_Ri_at b_Ri_at 3 (some .long) :: W0
abbrev w_PC_cutBySide : List Cond := .code y_PC_cutBySide b_PC_cutBySide 6 none :: W0
abbrev w_PC_sideNumber : List Cond := .code y_PC_sideNumber b_PC_sideNumber 9 (some .long) :: W0
abbrev w_PC_addBetween : List Cond := .code y_PC_addBetween b_PC_addBetween 14 none :: W0
abbrev w_PC_div : List Cond := .code y_PC_div b_PC_div 4 (some .long) :: W0
abbrev w_Ma_floorDiv : List Cond := .code y_Ma_floorDiv b_Ma_floorDiv 6 (some .long) :: W0
abbrev w_PC_layOnPicture : List Cond := .code y_PC_layOnPicture b_PC_layOnPicture 4 none :: W0
abbrev w_PC_divide : List Cond := .code y_PC_divide b_PC_divide 5 none :: W0
abbrev w_Fa_clear : List Cond := .code y_Fa_clear b_Fa_clear 1 none :: W0
abbrev w_PC_areaWith : List Cond := .code y_PC_areaWith b_PC_areaWith 7 (some .long) :: W0
abbrev w_Fa_add : List Cond := .code y_Fa_add b_Fa_add 5 none :: W0
abbrev w_PC_piece : List Cond := .code y_PC_piece b_PC_piece 4 (some .int) :: W0
abbrev w_Fa_corner : List Cond := .code y_Fa_corner b_Fa_corner 3 (some .int) :: W0
abbrev w_Fa_has : List Cond := .code y_Fa_has b_Fa_has 2 (some .boolean) :: W0
abbrev w_PC_area : List Cond := .code y_PC_area b_PC_area 2 (some .int) :: W0
abbrev w_PC_first : List Cond := .code y_PC_first b_PC_first 4 (some .int) :: W0
abbrev w_PC_covers : List Cond := .code y_PC_covers b_PC_covers 5 (some .boolean) :: W0
abbrev w_PC_isPixel : List Cond := .code y_PC_isPixel b_PC_isPixel 3 (some .boolean) :: W0
abbrev w_PC_isInside : List Cond := .code y_PC_isInside b_PC_isInside 11 (some .boolean) :: W0
abbrev w_PC_edgeNumber : List Cond := .code y_PC_edgeNumber b_PC_edgeNumber 11 (some .long) :: W0
abbrev w_PC_cornerAfter : List Cond := .code y_PC_cornerAfter b_PC_cornerAfter 1 (some .int) :: W0
abbrev w_PC_middle : List Cond := .code y_PC_middle b_PC_middle 1 (some .long) :: W0
abbrev w_PC_last : List Cond := .code y_PC_last b_PC_last 4 (some .int) :: W0
abbrev w_PC_near : List Cond := .code y_PC_near b_PC_near 4 (some .int) :: W0
abbrev w_PC_weightSum : List Cond := .code y_PC_weightSum b_PC_weightSum 4 (some .long) :: W0
abbrev w_PC_weight : List Cond := .code y_PC_weight b_PC_weight 5 (some .long) :: W0
abbrev w_PC_number : List Cond := .code y_PC_number b_PC_number 8 (some .int) :: W0
abbrev w_PC_covered : List Cond := .code y_PC_covered b_PC_covered 5 (some .int) :: W0
abbrev w_La_cell : List Cond := .code y_La_cell b_La_cell 2 (some .int) :: W0
abbrev w_Mo_init : List Cond := .code y_Mo_init b_Mo_init 3 none :: W0
abbrev w_Mo_focus : List Cond := .code y_Mo_focus b_Mo_focus 2 (some .boolean) :: W0
abbrev w_Mo_within : List Cond := .code y_Mo_within b_Mo_within 3 (some .boolean) :: W0
abbrev w_Mo_place : List Cond := .code y_Mo_place b_Mo_place 5 (some .boolean) :: W0
abbrev w_Mo_far : List Cond := .code y_Mo_far b_Mo_far 1 (some .boolean) :: W0
abbrev w_Mo_paint : List Cond := .code y_Mo_paint b_Mo_paint 5 (some .boolean) :: W0
abbrev w_Mo_cut : List Cond := .code y_Mo_cut b_Mo_cut 3 (some .int) :: W0
abbrev w_Mo_cutBy : List Cond := .code y_Mo_cutBy b_Mo_cutBy 9 none :: W0
abbrev w_Mo_number2 : List Cond := .code y_Mo_number2 b_Mo_number2 9 (some .long) :: W0
abbrev w_Mo_between : List Cond := .code y_Mo_between b_Mo_between 8 none :: W0
abbrev w_Mo_div : List Cond := .code y_Mo_div b_Mo_div 6 (some .long) :: W0
abbrev w_Mo_lay : List Cond := .code y_Mo_lay b_Mo_lay 8 none :: W0
abbrev w_Mo_areaOf : List Cond := .code y_Mo_areaOf b_Mo_areaOf 3 (some .long) :: W0
abbrev w_Mo_piece : List Cond := .code y_Mo_piece b_Mo_piece 4 (some .int) :: W0
abbrev w_Mo_area : List Cond := .code y_Mo_area b_Mo_area 2 (some .int) :: W0
abbrev w_Mo_first : List Cond := .code y_Mo_first b_Mo_first 4 (some .int) :: W0
abbrev w_Mo_covers : List Cond := .code y_Mo_covers b_Mo_covers 4 (some .boolean) :: W0
abbrev w_Mo_isPixel : List Cond := .code y_Mo_isPixel b_Mo_isPixel 3 (some .boolean) :: W0
abbrev w_Mo_owns : List Cond := .code y_Mo_owns b_Mo_owns 10 (some .boolean) :: W0
abbrev w_Mo_edge : List Cond := .code y_Mo_edge b_Mo_edge 8 (some .long) :: W0
abbrev w_Mo_last : List Cond := .code y_Mo_last b_Mo_last 4 (some .int) :: W0
abbrev w_Mo_near : List Cond := .code y_Mo_near b_Mo_near 4 (some .int) :: W0
abbrev w_Mo_weight : List Cond := .code y_Mo_weight b_Mo_weight 5 (some .long) :: W0
abbrev w_Mo_number : List Cond := .code y_Mo_number b_Mo_number 10 (some .int) :: W0
abbrev w_Mo_covered : List Cond := .code y_Mo_covered b_Mo_covered 5 (some .int) :: W0
def nw_list : List Cond := [.methodLinkNest R_PC 25 y_Ri_init "PieceCutter", .fieldLinkNest R_PC 137 "PieceCutter$Ring" "size" "I" "PieceCutter", .methodLinkNest R_PC 30 y_Ri_addRow "PieceCutter", .methodLinkNest R_PC 45 y_Fa_init "PieceCutter", .fieldLinkNest R_PC 95 "PieceCutter$Fan" "areas" "[I" "PieceCutter", .fieldLinkNest R_PC 83 "PieceCutter$Fan" "size" "I" "PieceCutter", .methodLinkNest R_PC 50 y_Ri_has "PieceCutter", .methodLinkNest R_PC 57 y_Ri_put "PieceCutter", .methodLinkNest R_PC 65 y_Ri_clear "PieceCutter", .methodLinkNest R_PC 68 y_Ri_addCopy "PieceCutter", .methodLinkNest R_PC 90 y_Ri_at "PieceCutter", .methodLinkNest R_PC 153 y_Fa_clear "PieceCutter", .methodLinkNest R_PC 157 y_Fa_add "PieceCutter", .methodLinkNest R_PC 86 y_Fa_corner "PieceCutter", .methodLinkNest R_PC 94 y_Fa_has "PieceCutter"]
theorem nw_0 : Cond.methodLinkNest R_PC 25 y_Ri_init "PieceCutter" ∈ nw_list := List.mem_of_getElem? (i := 0) rfl
theorem nw_1 : Cond.fieldLinkNest R_PC 137 "PieceCutter$Ring" "size" "I" "PieceCutter" ∈ nw_list := List.mem_of_getElem? (i := 1) rfl
theorem nw_2 : Cond.methodLinkNest R_PC 30 y_Ri_addRow "PieceCutter" ∈ nw_list := List.mem_of_getElem? (i := 2) rfl
theorem nw_3 : Cond.methodLinkNest R_PC 45 y_Fa_init "PieceCutter" ∈ nw_list := List.mem_of_getElem? (i := 3) rfl
theorem nw_4 : Cond.fieldLinkNest R_PC 95 "PieceCutter$Fan" "areas" "[I" "PieceCutter" ∈ nw_list := List.mem_of_getElem? (i := 4) rfl
theorem nw_5 : Cond.fieldLinkNest R_PC 83 "PieceCutter$Fan" "size" "I" "PieceCutter" ∈ nw_list := List.mem_of_getElem? (i := 5) rfl
theorem nw_6 : Cond.methodLinkNest R_PC 50 y_Ri_has "PieceCutter" ∈ nw_list := List.mem_of_getElem? (i := 6) rfl
theorem nw_7 : Cond.methodLinkNest R_PC 57 y_Ri_put "PieceCutter" ∈ nw_list := List.mem_of_getElem? (i := 7) rfl
theorem nw_8 : Cond.methodLinkNest R_PC 65 y_Ri_clear "PieceCutter" ∈ nw_list := List.mem_of_getElem? (i := 8) rfl
theorem nw_9 : Cond.methodLinkNest R_PC 68 y_Ri_addCopy "PieceCutter" ∈ nw_list := List.mem_of_getElem? (i := 9) rfl
theorem nw_10 : Cond.methodLinkNest R_PC 90 y_Ri_at "PieceCutter" ∈ nw_list := List.mem_of_getElem? (i := 10) rfl
theorem nw_11 : Cond.methodLinkNest R_PC 153 y_Fa_clear "PieceCutter" ∈ nw_list := List.mem_of_getElem? (i := 11) rfl
theorem nw_12 : Cond.methodLinkNest R_PC 157 y_Fa_add "PieceCutter" ∈ nw_list := List.mem_of_getElem? (i := 12) rfl
theorem nw_13 : Cond.methodLinkNest R_PC 86 y_Fa_corner "PieceCutter" ∈ nw_list := List.mem_of_getElem? (i := 13) rfl
theorem nw_14 : Cond.methodLinkNest R_PC 94 y_Fa_has "PieceCutter" ∈ nw_list := List.mem_of_getElem? (i := 14) rfl
theorem nw_in : ∀ w ∈ nw_list, w ∈ lw_tbl := w0p (ps := [57, 63, 70, 76, 83, 85, 129, 138, 157, 161, 179, 202, 210, 218, 230]) (by decide +kernel)
end
section
theorem d_Fa_init_0 : decode b_Fa_init 0 = .ok (.aload_n 0, 1) := by decide +kernel
theorem d_Fa_init_1 : decode b_Fa_init 1 = .ok (.invokespecial 3, 3) := by decide +kernel
theorem d_Fa_init_4 : decode b_Fa_init 4 = .ok (.aload_n 0, 1) := by decide +kernel
theorem d_Fa_init_5 : decode b_Fa_init 5 = .ok (.bipush 17, 2) := by decide +kernel
theorem d_Fa_init_7 : decode b_Fa_init 7 = .ok (.newarray .int, 2) := by decide +kernel
theorem d_Fa_init_9 : decode b_Fa_init 9 = .ok (.putfield 9, 3) := by decide +kernel
theorem d_Fa_init_12 : decode b_Fa_init 12 = .ok (.aload_n 0, 1) := by decide +kernel
theorem d_Fa_init_13 : decode b_Fa_init 13 = .ok (.bipush 17, 2) := by decide +kernel
theorem d_Fa_init_15 : decode b_Fa_init 15 = .ok (.newarray .int, 2) := by decide +kernel
theorem d_Fa_init_17 : decode b_Fa_init 17 = .ok (.putfield 15, 3) := by decide +kernel
theorem d_Fa_init_20 : decode b_Fa_init 20 = .ok (.aload_n 0, 1) := by decide +kernel
theorem d_Fa_init_21 : decode b_Fa_init 21 = .ok (.bipush 17, 2) := by decide +kernel
theorem d_Fa_init_23 : decode b_Fa_init 23 = .ok (.newarray .int, 2) := by decide +kernel
theorem d_Fa_init_25 : decode b_Fa_init 25 = .ok (.putfield 18, 3) := by decide +kernel
theorem d_Fa_init_28 : decode b_Fa_init 28 = .ok (.aload_n 0, 1) := by decide +kernel
theorem d_Fa_init_29 : decode b_Fa_init 29 = .ok (.iconst 0, 1) := by decide +kernel
theorem d_Fa_init_30 : decode b_Fa_init 30 = .ok (.putfield 21, 3) := by decide +kernel
theorem d_Fa_init_33 : decode b_Fa_init 33 = .ok (.return_, 1) := by decide +kernel
theorem d_Fa_has_0 : decode b_Fa_has 0 = .ok (.iload_n 1, 1) := by decide +kernel
theorem d_Fa_has_1 : decode b_Fa_has 1 = .ok (.ifCond .lt 24, 3) := by decide +kernel
theorem d_Fa_has_4 : decode b_Fa_has 4 = .ok (.iload_n 1, 1) := by decide +kernel
theorem d_Fa_has_5 : decode b_Fa_has 5 = .ok (.aload_n 0, 1) := by decide +kernel
theorem d_Fa_has_6 : decode b_Fa_has 6 = .ok (.getfield 21, 3) := by decide +kernel
theorem d_Fa_has_9 : decode b_Fa_has 9 = .ok (.if_icmp .ge 16, 3) := by decide +kernel
theorem d_Fa_has_12 : decode b_Fa_has 12 = .ok (.aload_n 0, 1) := by decide +kernel
theorem d_Fa_has_13 : decode b_Fa_has 13 = .ok (.getfield 21, 3) := by decide +kernel
theorem d_Fa_has_16 : decode b_Fa_has 16 = .ok (.bipush 17, 2) := by decide +kernel
theorem d_Fa_has_18 : decode b_Fa_has 18 = .ok (.if_icmp .gt 7, 3) := by decide +kernel
theorem d_Fa_has_21 : decode b_Fa_has 21 = .ok (.iconst 1, 1) := by decide +kernel
theorem d_Fa_has_22 : decode b_Fa_has 22 = .ok (.goto 4, 3) := by decide +kernel
theorem d_Fa_has_25 : decode b_Fa_has 25 = .ok (.iconst 0, 1) := by decide +kernel
theorem d_Fa_has_26 : decode b_Fa_has 26 = .ok (.ireturn, 1) := by decide +kernel
theorem d_Fa_clear_0 : decode b_Fa_clear 0 = .ok (.aload_n 0, 1) := by decide +kernel
theorem d_Fa_clear_1 : decode b_Fa_clear 1 = .ok (.iconst 0, 1) := by decide +kernel
theorem d_Fa_clear_2 : decode b_Fa_clear 2 = .ok (.putfield 21, 3) := by decide +kernel
theorem d_Fa_clear_5 : decode b_Fa_clear 5 = .ok (.return_, 1) := by decide +kernel
theorem d_Fa_add_0 : decode b_Fa_add 0 = .ok (.aload_n 0, 1) := by decide +kernel
theorem d_Fa_add_1 : decode b_Fa_add 1 = .ok (.getfield 21, 3) := by decide +kernel
theorem d_Fa_add_4 : decode b_Fa_add 4 = .ok (.ifCond .lt 53, 3) := by decide +kernel
theorem d_Fa_add_7 : decode b_Fa_add 7 = .ok (.aload_n 0, 1) := by decide +kernel
theorem d_Fa_add_8 : decode b_Fa_add 8 = .ok (.getfield 21, 3) := by decide +kernel
theorem d_Fa_add_11 : decode b_Fa_add 11 = .ok (.bipush 17, 2) := by decide +kernel
theorem d_Fa_add_13 : decode b_Fa_add 13 = .ok (.if_icmp .ge 44, 3) := by decide +kernel
theorem d_Fa_add_16 : decode b_Fa_add 16 = .ok (.aload_n 0, 1) := by decide +kernel
theorem d_Fa_add_17 : decode b_Fa_add 17 = .ok (.getfield 9, 3) := by decide +kernel
theorem d_Fa_add_20 : decode b_Fa_add 20 = .ok (.aload_n 0, 1) := by decide +kernel
theorem d_Fa_add_21 : decode b_Fa_add 21 = .ok (.getfield 21, 3) := by decide +kernel
theorem d_Fa_add_24 : decode b_Fa_add 24 = .ok (.iload_n 1, 1) := by decide +kernel
theorem d_Fa_add_25 : decode b_Fa_add 25 = .ok (.iastore, 1) := by decide +kernel
theorem d_Fa_add_26 : decode b_Fa_add 26 = .ok (.aload_n 0, 1) := by decide +kernel
theorem d_Fa_add_27 : decode b_Fa_add 27 = .ok (.getfield 15, 3) := by decide +kernel
theorem d_Fa_add_30 : decode b_Fa_add 30 = .ok (.aload_n 0, 1) := by decide +kernel
theorem d_Fa_add_31 : decode b_Fa_add 31 = .ok (.getfield 21, 3) := by decide +kernel
theorem d_Fa_add_34 : decode b_Fa_add 34 = .ok (.iload_n 2, 1) := by decide +kernel
theorem d_Fa_add_35 : decode b_Fa_add 35 = .ok (.iastore, 1) := by decide +kernel
theorem d_Fa_add_36 : decode b_Fa_add 36 = .ok (.aload_n 0, 1) := by decide +kernel
theorem d_Fa_add_37 : decode b_Fa_add 37 = .ok (.getfield 18, 3) := by decide +kernel
theorem d_Fa_add_40 : decode b_Fa_add 40 = .ok (.aload_n 0, 1) := by decide +kernel
theorem d_Fa_add_41 : decode b_Fa_add 41 = .ok (.getfield 21, 3) := by decide +kernel
theorem d_Fa_add_44 : decode b_Fa_add 44 = .ok (.lload_n 3, 1) := by decide +kernel
theorem d_Fa_add_45 : decode b_Fa_add 45 = .ok (.l2i, 1) := by decide +kernel
theorem d_Fa_add_46 : decode b_Fa_add 46 = .ok (.iastore, 1) := by decide +kernel
theorem d_Fa_add_47 : decode b_Fa_add 47 = .ok (.aload_n 0, 1) := by decide +kernel
theorem d_Fa_add_48 : decode b_Fa_add 48 = .ok (.dup, 1) := by decide +kernel
theorem d_Fa_add_49 : decode b_Fa_add 49 = .ok (.getfield 21, 3) := by decide +kernel
theorem d_Fa_add_52 : decode b_Fa_add 52 = .ok (.iconst 1, 1) := by decide +kernel
theorem d_Fa_add_53 : decode b_Fa_add 53 = .ok (.iadd, 1) := by decide +kernel
theorem d_Fa_add_54 : decode b_Fa_add 54 = .ok (.putfield 21, 3) := by decide +kernel
theorem d_Fa_add_57 : decode b_Fa_add 57 = .ok (.return_, 1) := by decide +kernel
theorem d_Fa_corner_0 : decode b_Fa_corner 0 = .ok (.aload_n 0, 1) := by decide +kernel
theorem d_Fa_corner_1 : decode b_Fa_corner 1 = .ok (.iload_n 1, 1) := by decide +kernel
theorem d_Fa_corner_2 : decode b_Fa_corner 2 = .ok (.invokevirtual 25, 3) := by decide +kernel
theorem d_Fa_corner_5 : decode b_Fa_corner 5 = .ok (.ifCond .ne 5, 3) := by decide +kernel
theorem d_Fa_corner_8 : decode b_Fa_corner 8 = .ok (.iconst (-1), 1) := by decide +kernel
theorem d_Fa_corner_9 : decode b_Fa_corner 9 = .ok (.ireturn, 1) := by decide +kernel
theorem d_Fa_corner_10 : decode b_Fa_corner 10 = .ok (.iload_n 2, 1) := by decide +kernel
theorem d_Fa_corner_11 : decode b_Fa_corner 11 = .ok (.tableswitch 41 0 2 #[25, 27, 34], 25) := by decide +kernel
theorem d_Fa_corner_36 : decode b_Fa_corner 36 = .ok (.iconst 0, 1) := by decide +kernel
theorem d_Fa_corner_37 : decode b_Fa_corner 37 = .ok (.ireturn, 1) := by decide +kernel
theorem d_Fa_corner_38 : decode b_Fa_corner 38 = .ok (.aload_n 0, 1) := by decide +kernel
theorem d_Fa_corner_39 : decode b_Fa_corner 39 = .ok (.getfield 9, 3) := by decide +kernel
theorem d_Fa_corner_42 : decode b_Fa_corner 42 = .ok (.iload_n 1, 1) := by decide +kernel
theorem d_Fa_corner_43 : decode b_Fa_corner 43 = .ok (.iaload, 1) := by decide +kernel
theorem d_Fa_corner_44 : decode b_Fa_corner 44 = .ok (.ireturn, 1) := by decide +kernel
theorem d_Fa_corner_45 : decode b_Fa_corner 45 = .ok (.aload_n 0, 1) := by decide +kernel
theorem d_Fa_corner_46 : decode b_Fa_corner 46 = .ok (.getfield 15, 3) := by decide +kernel
theorem d_Fa_corner_49 : decode b_Fa_corner 49 = .ok (.iload_n 1, 1) := by decide +kernel
theorem d_Fa_corner_50 : decode b_Fa_corner 50 = .ok (.iaload, 1) := by decide +kernel
theorem d_Fa_corner_51 : decode b_Fa_corner 51 = .ok (.ireturn, 1) := by decide +kernel
theorem d_Fa_corner_52 : decode b_Fa_corner 52 = .ok (.iconst (-1), 1) := by decide +kernel
theorem d_Fa_corner_53 : decode b_Fa_corner 53 = .ok (.ireturn, 1) := by decide +kernel
theorem d_Ri_init_0 : decode b_Ri_init 0 = .ok (.aload_n 0, 1) := by decide +kernel
theorem d_Ri_init_1 : decode b_Ri_init 1 = .ok (.invokespecial 3, 3) := by decide +kernel
theorem d_Ri_init_4 : decode b_Ri_init 4 = .ok (.aload_n 0, 1) := by decide +kernel
theorem d_Ri_init_5 : decode b_Ri_init 5 = .ok (.bipush 114, 2) := by decide +kernel
theorem d_Ri_init_7 : decode b_Ri_init 7 = .ok (.newarray .long, 2) := by decide +kernel
theorem d_Ri_init_9 : decode b_Ri_init 9 = .ok (.putfield 9, 3) := by decide +kernel
theorem d_Ri_init_12 : decode b_Ri_init 12 = .ok (.aload_n 0, 1) := by decide +kernel
theorem d_Ri_init_13 : decode b_Ri_init 13 = .ok (.iconst 0, 1) := by decide +kernel
theorem d_Ri_init_14 : decode b_Ri_init 14 = .ok (.putfield 15, 3) := by decide +kernel
theorem d_Ri_init_17 : decode b_Ri_init 17 = .ok (.return_, 1) := by decide +kernel
theorem d_Ri_has_0 : decode b_Ri_has 0 = .ok (.iload_n 1, 1) := by decide +kernel
theorem d_Ri_has_1 : decode b_Ri_has 1 = .ok (.ifCond .lt 24, 3) := by decide +kernel
theorem d_Ri_has_4 : decode b_Ri_has 4 = .ok (.iload_n 1, 1) := by decide +kernel
theorem d_Ri_has_5 : decode b_Ri_has 5 = .ok (.aload_n 0, 1) := by decide +kernel
theorem d_Ri_has_6 : decode b_Ri_has 6 = .ok (.getfield 15, 3) := by decide +kernel
theorem d_Ri_has_9 : decode b_Ri_has 9 = .ok (.if_icmp .ge 16, 3) := by decide +kernel
theorem d_Ri_has_12 : decode b_Ri_has 12 = .ok (.aload_n 0, 1) := by decide +kernel
theorem d_Ri_has_13 : decode b_Ri_has 13 = .ok (.getfield 15, 3) := by decide +kernel
theorem d_Ri_has_16 : decode b_Ri_has 16 = .ok (.bipush 19, 2) := by decide +kernel
theorem d_Ri_has_18 : decode b_Ri_has 18 = .ok (.if_icmp .gt 7, 3) := by decide +kernel
theorem d_Ri_has_21 : decode b_Ri_has 21 = .ok (.iconst 1, 1) := by decide +kernel
theorem d_Ri_has_22 : decode b_Ri_has 22 = .ok (.goto 4, 3) := by decide +kernel
theorem d_Ri_has_25 : decode b_Ri_has 25 = .ok (.iconst 0, 1) := by decide +kernel
theorem d_Ri_has_26 : decode b_Ri_has 26 = .ok (.ireturn, 1) := by decide +kernel
theorem d_Ri_at_0 : decode b_Ri_at 0 = .ok (.aload_n 0, 1) := by decide +kernel
theorem d_Ri_at_1 : decode b_Ri_at 1 = .ok (.iload_n 1, 1) := by decide +kernel
theorem d_Ri_at_2 : decode b_Ri_at 2 = .ok (.invokevirtual 19, 3) := by decide +kernel
theorem d_Ri_at_5 : decode b_Ri_at 5 = .ok (.ifCond .eq 27, 3) := by decide +kernel
theorem d_Ri_at_8 : decode b_Ri_at 8 = .ok (.iload_n 2, 1) := by decide +kernel
theorem d_Ri_at_9 : decode b_Ri_at 9 = .ok (.ifCond .lt 23, 3) := by decide +kernel
theorem d_Ri_at_12 : decode b_Ri_at 12 = .ok (.iload_n 2, 1) := by decide +kernel
theorem d_Ri_at_13 : decode b_Ri_at 13 = .ok (.bipush 6, 2) := by decide +kernel
theorem d_Ri_at_15 : decode b_Ri_at 15 = .ok (.if_icmp .ge 17, 3) := by decide +kernel
theorem d_Ri_at_18 : decode b_Ri_at 18 = .ok (.aload_n 0, 1) := by decide +kernel
theorem d_Ri_at_19 : decode b_Ri_at 19 = .ok (.getfield 9, 3) := by decide +kernel
theorem d_Ri_at_22 : decode b_Ri_at 22 = .ok (.iload_n 1, 1) := by decide +kernel
theorem d_Ri_at_23 : decode b_Ri_at 23 = .ok (.bipush 6, 2) := by decide +kernel
theorem d_Ri_at_25 : decode b_Ri_at 25 = .ok (.imul, 1) := by decide +kernel
theorem d_Ri_at_26 : decode b_Ri_at 26 = .ok (.iload_n 2, 1) := by decide +kernel
theorem d_Ri_at_27 : decode b_Ri_at 27 = .ok (.iadd, 1) := by decide +kernel
theorem d_Ri_at_28 : decode b_Ri_at 28 = .ok (.laload, 1) := by decide +kernel
theorem d_Ri_at_29 : decode b_Ri_at 29 = .ok (.goto 4, 3) := by decide +kernel
theorem d_Ri_at_32 : decode b_Ri_at 32 = .ok (.lconst 0, 1) := by decide +kernel
theorem d_Ri_at_33 : decode b_Ri_at 33 = .ok (.lreturn, 1) := by decide +kernel
theorem d_Ri_put_0 : decode b_Ri_put 0 = .ok (.aload_n 0, 1) := by decide +kernel
theorem d_Ri_put_1 : decode b_Ri_put 1 = .ok (.iload_n 1, 1) := by decide +kernel
theorem d_Ri_put_2 : decode b_Ri_put 2 = .ok (.invokevirtual 19, 3) := by decide +kernel
theorem d_Ri_put_5 : decode b_Ri_put 5 = .ok (.ifCond .eq 25, 3) := by decide +kernel
theorem d_Ri_put_8 : decode b_Ri_put 8 = .ok (.iload_n 2, 1) := by decide +kernel
theorem d_Ri_put_9 : decode b_Ri_put 9 = .ok (.ifCond .lt 21, 3) := by decide +kernel
theorem d_Ri_put_12 : decode b_Ri_put 12 = .ok (.iload_n 2, 1) := by decide +kernel
theorem d_Ri_put_13 : decode b_Ri_put 13 = .ok (.bipush 6, 2) := by decide +kernel
theorem d_Ri_put_15 : decode b_Ri_put 15 = .ok (.if_icmp .ge 15, 3) := by decide +kernel
theorem d_Ri_put_18 : decode b_Ri_put 18 = .ok (.aload_n 0, 1) := by decide +kernel
theorem d_Ri_put_19 : decode b_Ri_put 19 = .ok (.getfield 9, 3) := by decide +kernel
theorem d_Ri_put_22 : decode b_Ri_put 22 = .ok (.iload_n 1, 1) := by decide +kernel
theorem d_Ri_put_23 : decode b_Ri_put 23 = .ok (.bipush 6, 2) := by decide +kernel
theorem d_Ri_put_25 : decode b_Ri_put 25 = .ok (.imul, 1) := by decide +kernel
theorem d_Ri_put_26 : decode b_Ri_put 26 = .ok (.iload_n 2, 1) := by decide +kernel
theorem d_Ri_put_27 : decode b_Ri_put 27 = .ok (.iadd, 1) := by decide +kernel
theorem d_Ri_put_28 : decode b_Ri_put 28 = .ok (.lload_n 3, 1) := by decide +kernel
theorem d_Ri_put_29 : decode b_Ri_put 29 = .ok (.lastore, 1) := by decide +kernel
theorem d_Ri_put_30 : decode b_Ri_put 30 = .ok (.return_, 1) := by decide +kernel
theorem d_Ri_clear_0 : decode b_Ri_clear 0 = .ok (.aload_n 0, 1) := by decide +kernel
theorem d_Ri_clear_1 : decode b_Ri_clear 1 = .ok (.iconst 0, 1) := by decide +kernel
theorem d_Ri_clear_2 : decode b_Ri_clear 2 = .ok (.putfield 15, 3) := by decide +kernel
theorem d_Ri_clear_5 : decode b_Ri_clear 5 = .ok (.return_, 1) := by decide +kernel
theorem d_Ri_addRow_0 : decode b_Ri_addRow 0 = .ok (.aload_n 0, 1) := by decide +kernel
theorem d_Ri_addRow_1 : decode b_Ri_addRow 1 = .ok (.getfield 15, 3) := by decide +kernel
theorem d_Ri_addRow_4 : decode b_Ri_addRow 4 = .ok (.bipush 19, 2) := by decide +kernel
theorem d_Ri_addRow_6 : decode b_Ri_addRow 6 = .ok (.if_icmp .lt 5, 3) := by decide +kernel
theorem d_Ri_addRow_9 : decode b_Ri_addRow 9 = .ok (.iconst (-1), 1) := by decide +kernel
theorem d_Ri_addRow_10 : decode b_Ri_addRow 10 = .ok (.ireturn, 1) := by decide +kernel
theorem d_Ri_addRow_11 : decode b_Ri_addRow 11 = .ok (.aload_n 0, 1) := by decide +kernel
theorem d_Ri_addRow_12 : decode b_Ri_addRow 12 = .ok (.dup, 1) := by decide +kernel
theorem d_Ri_addRow_13 : decode b_Ri_addRow 13 = .ok (.getfield 15, 3) := by decide +kernel
theorem d_Ri_addRow_16 : decode b_Ri_addRow 16 = .ok (.iconst 1, 1) := by decide +kernel
theorem d_Ri_addRow_17 : decode b_Ri_addRow 17 = .ok (.iadd, 1) := by decide +kernel
theorem d_Ri_addRow_18 : decode b_Ri_addRow 18 = .ok (.putfield 15, 3) := by decide +kernel
theorem d_Ri_addRow_21 : decode b_Ri_addRow 21 = .ok (.aload_n 0, 1) := by decide +kernel
theorem d_Ri_addRow_22 : decode b_Ri_addRow 22 = .ok (.getfield 15, 3) := by decide +kernel
theorem d_Ri_addRow_25 : decode b_Ri_addRow 25 = .ok (.iconst 1, 1) := by decide +kernel
theorem d_Ri_addRow_26 : decode b_Ri_addRow 26 = .ok (.isub, 1) := by decide +kernel
theorem d_Ri_addRow_27 : decode b_Ri_addRow 27 = .ok (.ireturn, 1) := by decide +kernel
theorem d_Ri_addCopy_0 : decode b_Ri_addCopy 0 = .ok (.aload_n 0, 1) := by decide +kernel
theorem d_Ri_addCopy_1 : decode b_Ri_addCopy 1 = .ok (.invokevirtual 23, 3) := by decide +kernel
theorem d_Ri_addCopy_4 : decode b_Ri_addCopy 4 = .ok (.istore_n 3, 1) := by decide +kernel
theorem d_Ri_addCopy_5 : decode b_Ri_addCopy 5 = .ok (.iconst 0, 1) := by decide +kernel
theorem d_Ri_addCopy_6 : decode b_Ri_addCopy 6 = .ok (.istore 4, 2) := by decide +kernel
theorem d_Ri_addCopy_8 : decode b_Ri_addCopy 8 = .ok (.iload 4, 2) := by decide +kernel
theorem d_Ri_addCopy_10 : decode b_Ri_addCopy 10 = .ok (.bipush 6, 2) := by decide +kernel
theorem d_Ri_addCopy_12 : decode b_Ri_addCopy 12 = .ok (.if_icmp .ge 23, 3) := by decide +kernel
theorem d_Ri_addCopy_15 : decode b_Ri_addCopy 15 = .ok (.aload_n 0, 1) := by decide +kernel
theorem d_Ri_addCopy_16 : decode b_Ri_addCopy 16 = .ok (.iload_n 3, 1) := by decide +kernel
theorem d_Ri_addCopy_17 : decode b_Ri_addCopy 17 = .ok (.iload 4, 2) := by decide +kernel
theorem d_Ri_addCopy_19 : decode b_Ri_addCopy 19 = .ok (.aload_n 1, 1) := by decide +kernel
theorem d_Ri_addCopy_20 : decode b_Ri_addCopy 20 = .ok (.iload_n 2, 1) := by decide +kernel
theorem d_Ri_addCopy_21 : decode b_Ri_addCopy 21 = .ok (.iload 4, 2) := by decide +kernel
theorem d_Ri_addCopy_23 : decode b_Ri_addCopy 23 = .ok (.invokevirtual 27, 3) := by decide +kernel
theorem d_Ri_addCopy_26 : decode b_Ri_addCopy 26 = .ok (.invokevirtual 31, 3) := by decide +kernel
theorem d_Ri_addCopy_29 : decode b_Ri_addCopy 29 = .ok (.iinc 4 1, 3) := by decide +kernel
theorem d_Ri_addCopy_32 : decode b_Ri_addCopy 32 = .ok (.goto (-24), 3) := by decide +kernel
theorem d_Ri_addCopy_35 : decode b_Ri_addCopy 35 = .ok (.return_, 1) := by decide +kernel
theorem d_Ma_floorDiv_0 : decode b_Ma_floorDiv 0 = .ok (.lload_n 0, 1) := by decide +kernel
theorem d_Ma_floorDiv_1 : decode b_Ma_floorDiv 1 = .ok (.lload_n 2, 1) := by decide +kernel
theorem d_Ma_floorDiv_2 : decode b_Ma_floorDiv 2 = .ok (.ldiv, 1) := by decide +kernel
theorem d_Ma_floorDiv_3 : decode b_Ma_floorDiv 3 = .ok (.lstore 4, 2) := by decide +kernel
theorem d_Ma_floorDiv_5 : decode b_Ma_floorDiv 5 = .ok (.lload_n 0, 1) := by decide +kernel
theorem d_Ma_floorDiv_6 : decode b_Ma_floorDiv 6 = .ok (.lload_n 2, 1) := by decide +kernel
theorem d_Ma_floorDiv_7 : decode b_Ma_floorDiv 7 = .ok (.lxor, 1) := by decide +kernel
theorem d_Ma_floorDiv_8 : decode b_Ma_floorDiv 8 = .ok (.lconst 0, 1) := by decide +kernel
theorem d_Ma_floorDiv_9 : decode b_Ma_floorDiv 9 = .ok (.lcmp, 1) := by decide +kernel
theorem d_Ma_floorDiv_10 : decode b_Ma_floorDiv 10 = .ok (.ifCond .ge 17, 3) := by decide +kernel
theorem d_Ma_floorDiv_13 : decode b_Ma_floorDiv 13 = .ok (.lload 4, 2) := by decide +kernel
theorem d_Ma_floorDiv_15 : decode b_Ma_floorDiv 15 = .ok (.lload_n 2, 1) := by decide +kernel
theorem d_Ma_floorDiv_16 : decode b_Ma_floorDiv 16 = .ok (.lmul, 1) := by decide +kernel
theorem d_Ma_floorDiv_17 : decode b_Ma_floorDiv 17 = .ok (.lload_n 0, 1) := by decide +kernel
theorem d_Ma_floorDiv_18 : decode b_Ma_floorDiv 18 = .ok (.lcmp, 1) := by decide +kernel
theorem d_Ma_floorDiv_19 : decode b_Ma_floorDiv 19 = .ok (.ifCond .eq 8, 3) := by decide +kernel
theorem d_Ma_floorDiv_22 : decode b_Ma_floorDiv 22 = .ok (.lload 4, 2) := by decide +kernel
theorem d_Ma_floorDiv_24 : decode b_Ma_floorDiv 24 = .ok (.lconst 1, 1) := by decide +kernel
theorem d_Ma_floorDiv_25 : decode b_Ma_floorDiv 25 = .ok (.lsub, 1) := by decide +kernel
theorem d_Ma_floorDiv_26 : decode b_Ma_floorDiv 26 = .ok (.lreturn, 1) := by decide +kernel
theorem d_Ma_floorDiv_27 : decode b_Ma_floorDiv 27 = .ok (.lload 4, 2) := by decide +kernel
theorem d_Ma_floorDiv_29 : decode b_Ma_floorDiv 29 = .ok (.lreturn, 1) := by decide +kernel
end
section
theorem d_PC_init_0 : decode b_PC_init 0 = .ok (.aload_n 0, 1) := by decide +kernel
theorem d_PC_init_1 : decode b_PC_init 1 = .ok (.invokespecial 3, 3) := by decide +kernel
theorem d_PC_init_4 : decode b_PC_init 4 = .ok (.aload_n 0, 1) := by decide +kernel
theorem d_PC_init_5 : decode b_PC_init 5 = .ok (.iload_n 1, 1) := by decide +kernel
theorem d_PC_init_6 : decode b_PC_init 6 = .ok (.invokestatic 9, 3) := by decide +kernel
theorem d_PC_init_9 : decode b_PC_init 9 = .ok (.putfield 13, 3) := by decide +kernel
theorem d_PC_init_12 : decode b_PC_init 12 = .ok (.aload_n 0, 1) := by decide +kernel
theorem d_PC_init_13 : decode b_PC_init 13 = .ok (.iload_n 2, 1) := by decide +kernel
theorem d_PC_init_14 : decode b_PC_init 14 = .ok (.invokestatic 9, 3) := by decide +kernel
theorem d_PC_init_17 : decode b_PC_init 17 = .ok (.putfield 17, 3) := by decide +kernel
theorem d_PC_init_20 : decode b_PC_init 20 = .ok (.aload_n 0, 1) := by decide +kernel
theorem d_PC_init_21 : decode b_PC_init 21 = .ok (.bipush 32, 2) := by decide +kernel
theorem d_PC_init_23 : decode b_PC_init 23 = .ok (.putfield 20, 3) := by decide +kernel
theorem d_PC_init_26 : decode b_PC_init 26 = .ok (.aload_n 0, 1) := by decide +kernel
theorem d_PC_init_27 : decode b_PC_init 27 = .ok (.new 23, 3) := by decide +kernel
theorem d_PC_init_30 : decode b_PC_init 30 = .ok (.dup, 1) := by decide +kernel
theorem d_PC_init_31 : decode b_PC_init 31 = .ok (.invokespecial 25, 3) := by decide +kernel
theorem d_PC_init_34 : decode b_PC_init 34 = .ok (.putfield 26, 3) := by decide +kernel
theorem d_PC_init_37 : decode b_PC_init 37 = .ok (.iconst 0, 1) := by decide +kernel
theorem d_PC_init_38 : decode b_PC_init 38 = .ok (.istore_n 3, 1) := by decide +kernel
theorem d_PC_init_39 : decode b_PC_init 39 = .ok (.iload_n 3, 1) := by decide +kernel
theorem d_PC_init_40 : decode b_PC_init 40 = .ok (.iconst 3, 1) := by decide +kernel
theorem d_PC_init_41 : decode b_PC_init 41 = .ok (.if_icmp .ge 17, 3) := by decide +kernel
theorem d_PC_init_44 : decode b_PC_init 44 = .ok (.aload_n 0, 1) := by decide +kernel
theorem d_PC_init_45 : decode b_PC_init 45 = .ok (.getfield 26, 3) := by decide +kernel
theorem d_PC_init_48 : decode b_PC_init 48 = .ok (.invokevirtual 30, 3) := by decide +kernel
theorem d_PC_init_51 : decode b_PC_init 51 = .ok (.pop, 1) := by decide +kernel
theorem d_PC_init_52 : decode b_PC_init 52 = .ok (.iinc 3 1, 3) := by decide +kernel
theorem d_PC_init_55 : decode b_PC_init 55 = .ok (.goto (-16), 3) := by decide +kernel
theorem d_PC_init_58 : decode b_PC_init 58 = .ok (.aload_n 0, 1) := by decide +kernel
theorem d_PC_init_59 : decode b_PC_init 59 = .ok (.new 23, 3) := by decide +kernel
theorem d_PC_init_62 : decode b_PC_init 62 = .ok (.dup, 1) := by decide +kernel
theorem d_PC_init_63 : decode b_PC_init 63 = .ok (.invokespecial 25, 3) := by decide +kernel
theorem d_PC_init_66 : decode b_PC_init 66 = .ok (.putfield 34, 3) := by decide +kernel
theorem d_PC_init_69 : decode b_PC_init 69 = .ok (.aload_n 0, 1) := by decide +kernel
theorem d_PC_init_70 : decode b_PC_init 70 = .ok (.new 23, 3) := by decide +kernel
theorem d_PC_init_73 : decode b_PC_init 73 = .ok (.dup, 1) := by decide +kernel
theorem d_PC_init_74 : decode b_PC_init 74 = .ok (.invokespecial 25, 3) := by decide +kernel
theorem d_PC_init_77 : decode b_PC_init 77 = .ok (.putfield 37, 3) := by decide +kernel
theorem d_PC_init_80 : decode b_PC_init 80 = .ok (.aload_n 0, 1) := by decide +kernel
theorem d_PC_init_81 : decode b_PC_init 81 = .ok (.new 23, 3) := by decide +kernel
theorem d_PC_init_84 : decode b_PC_init 84 = .ok (.dup, 1) := by decide +kernel
theorem d_PC_init_85 : decode b_PC_init 85 = .ok (.invokespecial 25, 3) := by decide +kernel
theorem d_PC_init_88 : decode b_PC_init 88 = .ok (.putfield 40, 3) := by decide +kernel
theorem d_PC_init_91 : decode b_PC_init 91 = .ok (.aload_n 0, 1) := by decide +kernel
theorem d_PC_init_92 : decode b_PC_init 92 = .ok (.new 43, 3) := by decide +kernel
theorem d_PC_init_95 : decode b_PC_init 95 = .ok (.dup, 1) := by decide +kernel
theorem d_PC_init_96 : decode b_PC_init 96 = .ok (.invokespecial 45, 3) := by decide +kernel
theorem d_PC_init_99 : decode b_PC_init 99 = .ok (.putfield 46, 3) := by decide +kernel
theorem d_PC_init_102 : decode b_PC_init 102 = .ok (.return_, 1) := by decide +kernel
theorem d_PC_focus_0 : decode b_PC_focus 0 = .ok (.iload_n 1, 1) := by decide +kernel
theorem d_PC_focus_1 : decode b_PC_focus 1 = .ok (.bipush 8, 2) := by decide +kernel
theorem d_PC_focus_3 : decode b_PC_focus 3 = .ok (.if_icmp .lt 10, 3) := by decide +kernel
theorem d_PC_focus_6 : decode b_PC_focus 6 = .ok (.iload_n 1, 1) := by decide +kernel
theorem d_PC_focus_7 : decode b_PC_focus 7 = .ok (.sipush 512, 3) := by decide +kernel
theorem d_PC_focus_10 : decode b_PC_focus 10 = .ok (.if_icmp .le 5, 3) := by decide +kernel
theorem d_PC_focus_13 : decode b_PC_focus 13 = .ok (.iconst 0, 1) := by decide +kernel
theorem d_PC_focus_14 : decode b_PC_focus 14 = .ok (.ireturn, 1) := by decide +kernel
theorem d_PC_focus_15 : decode b_PC_focus 15 = .ok (.aload_n 0, 1) := by decide +kernel
theorem d_PC_focus_16 : decode b_PC_focus 16 = .ok (.iload_n 1, 1) := by decide +kernel
theorem d_PC_focus_17 : decode b_PC_focus 17 = .ok (.putfield 20, 3) := by decide +kernel
theorem d_PC_focus_20 : decode b_PC_focus 20 = .ok (.iconst 1, 1) := by decide +kernel
theorem d_PC_focus_21 : decode b_PC_focus 21 = .ok (.ireturn, 1) := by decide +kernel
theorem d_PC_place_0 : decode b_PC_place 0 = .ok (.aload_n 0, 1) := by decide +kernel
theorem d_PC_place_1 : decode b_PC_place 1 = .ok (.getfield 26, 3) := by decide +kernel
theorem d_PC_place_4 : decode b_PC_place 4 = .ok (.iload_n 1, 1) := by decide +kernel
theorem d_PC_place_5 : decode b_PC_place 5 = .ok (.invokevirtual 50, 3) := by decide +kernel
theorem d_PC_place_8 : decode b_PC_place 8 = .ok (.ifCond .eq 25, 3) := by decide +kernel
theorem d_PC_place_11 : decode b_PC_place 11 = .ok (.iload_n 2, 1) := by decide +kernel
theorem d_PC_place_12 : decode b_PC_place 12 = .ok (.invokestatic 54, 3) := by decide +kernel
theorem d_PC_place_15 : decode b_PC_place 15 = .ok (.ifCond .eq 18, 3) := by decide +kernel
theorem d_PC_place_18 : decode b_PC_place 18 = .ok (.iload_n 3, 1) := by decide +kernel
theorem d_PC_place_19 : decode b_PC_place 19 = .ok (.invokestatic 54, 3) := by decide +kernel
theorem d_PC_place_22 : decode b_PC_place 22 = .ok (.ifCond .eq 11, 3) := by decide +kernel
theorem d_PC_place_25 : decode b_PC_place 25 = .ok (.iload 4, 2) := by decide +kernel
theorem d_PC_place_27 : decode b_PC_place 27 = .ok (.invokestatic 54, 3) := by decide +kernel
theorem d_PC_place_30 : decode b_PC_place 30 = .ok (.ifCond .ne 5, 3) := by decide +kernel
theorem d_PC_place_33 : decode b_PC_place 33 = .ok (.iconst 0, 1) := by decide +kernel
theorem d_PC_place_34 : decode b_PC_place 34 = .ok (.ireturn, 1) := by decide +kernel
theorem d_PC_place_35 : decode b_PC_place 35 = .ok (.aload_n 0, 1) := by decide +kernel
theorem d_PC_place_36 : decode b_PC_place 36 = .ok (.getfield 26, 3) := by decide +kernel
theorem d_PC_place_39 : decode b_PC_place 39 = .ok (.iload_n 1, 1) := by decide +kernel
theorem d_PC_place_40 : decode b_PC_place 40 = .ok (.iconst 0, 1) := by decide +kernel
theorem d_PC_place_41 : decode b_PC_place 41 = .ok (.iload_n 2, 1) := by decide +kernel
theorem d_PC_place_42 : decode b_PC_place 42 = .ok (.i2l, 1) := by decide +kernel
theorem d_PC_place_43 : decode b_PC_place 43 = .ok (.invokevirtual 57, 3) := by decide +kernel
theorem d_PC_place_46 : decode b_PC_place 46 = .ok (.aload_n 0, 1) := by decide +kernel
theorem d_PC_place_47 : decode b_PC_place 47 = .ok (.getfield 26, 3) := by decide +kernel
theorem d_PC_place_50 : decode b_PC_place 50 = .ok (.iload_n 1, 1) := by decide +kernel
theorem d_PC_place_51 : decode b_PC_place 51 = .ok (.iconst 1, 1) := by decide +kernel
theorem d_PC_place_52 : decode b_PC_place 52 = .ok (.iload_n 3, 1) := by decide +kernel
theorem d_PC_place_53 : decode b_PC_place 53 = .ok (.i2l, 1) := by decide +kernel
theorem d_PC_place_54 : decode b_PC_place 54 = .ok (.invokevirtual 57, 3) := by decide +kernel
theorem d_PC_place_57 : decode b_PC_place 57 = .ok (.aload_n 0, 1) := by decide +kernel
theorem d_PC_place_58 : decode b_PC_place 58 = .ok (.getfield 26, 3) := by decide +kernel
theorem d_PC_place_61 : decode b_PC_place 61 = .ok (.iload_n 1, 1) := by decide +kernel
theorem d_PC_place_62 : decode b_PC_place 62 = .ok (.iconst 2, 1) := by decide +kernel
theorem d_PC_place_63 : decode b_PC_place 63 = .ok (.iload 4, 2) := by decide +kernel
theorem d_PC_place_65 : decode b_PC_place 65 = .ok (.i2l, 1) := by decide +kernel
theorem d_PC_place_66 : decode b_PC_place 66 = .ok (.invokevirtual 57, 3) := by decide +kernel
theorem d_PC_place_69 : decode b_PC_place 69 = .ok (.iconst 1, 1) := by decide +kernel
theorem d_PC_place_70 : decode b_PC_place 70 = .ok (.ireturn, 1) := by decide +kernel
theorem d_PC_paint_0 : decode b_PC_paint 0 = .ok (.aload_n 0, 1) := by decide +kernel
theorem d_PC_paint_1 : decode b_PC_paint 1 = .ok (.getfield 26, 3) := by decide +kernel
theorem d_PC_paint_4 : decode b_PC_paint 4 = .ok (.iload_n 1, 1) := by decide +kernel
theorem d_PC_paint_5 : decode b_PC_paint 5 = .ok (.invokevirtual 50, 3) := by decide +kernel
theorem d_PC_paint_8 : decode b_PC_paint 8 = .ok (.ifCond .eq 29, 3) := by decide +kernel
theorem d_PC_paint_11 : decode b_PC_paint 11 = .ok (.iload_n 2, 1) := by decide +kernel
theorem d_PC_paint_12 : decode b_PC_paint 12 = .ok (.invokestatic 61, 3) := by decide +kernel
theorem d_PC_paint_15 : decode b_PC_paint 15 = .ok (.ifCond .eq 22, 3) := by decide +kernel
theorem d_PC_paint_18 : decode b_PC_paint 18 = .ok (.iload_n 3, 1) := by decide +kernel
theorem d_PC_paint_19 : decode b_PC_paint 19 = .ok (.invokestatic 61, 3) := by decide +kernel
theorem d_PC_paint_22 : decode b_PC_paint 22 = .ok (.ifCond .eq 15, 3) := by decide +kernel
theorem d_PC_paint_25 : decode b_PC_paint 25 = .ok (.iload 4, 2) := by decide +kernel
theorem d_PC_paint_27 : decode b_PC_paint 27 = .ok (.ifCond .lt 10, 3) := by decide +kernel
theorem d_PC_paint_30 : decode b_PC_paint 30 = .ok (.iload 4, 2) := by decide +kernel
theorem d_PC_paint_32 : decode b_PC_paint 32 = .ok (.ldc 64, 2) := by decide +kernel
theorem d_PC_paint_34 : decode b_PC_paint 34 = .ok (.if_icmp .le 5, 3) := by decide +kernel
theorem d_PC_paint_37 : decode b_PC_paint 37 = .ok (.iconst 0, 1) := by decide +kernel
theorem d_PC_paint_38 : decode b_PC_paint 38 = .ok (.ireturn, 1) := by decide +kernel
theorem d_PC_paint_39 : decode b_PC_paint 39 = .ok (.aload_n 0, 1) := by decide +kernel
theorem d_PC_paint_40 : decode b_PC_paint 40 = .ok (.getfield 26, 3) := by decide +kernel
theorem d_PC_paint_43 : decode b_PC_paint 43 = .ok (.iload_n 1, 1) := by decide +kernel
theorem d_PC_paint_44 : decode b_PC_paint 44 = .ok (.iconst 3, 1) := by decide +kernel
theorem d_PC_paint_45 : decode b_PC_paint 45 = .ok (.iload_n 2, 1) := by decide +kernel
theorem d_PC_paint_46 : decode b_PC_paint 46 = .ok (.i2l, 1) := by decide +kernel
theorem d_PC_paint_47 : decode b_PC_paint 47 = .ok (.invokevirtual 57, 3) := by decide +kernel
theorem d_PC_paint_50 : decode b_PC_paint 50 = .ok (.aload_n 0, 1) := by decide +kernel
theorem d_PC_paint_51 : decode b_PC_paint 51 = .ok (.getfield 26, 3) := by decide +kernel
theorem d_PC_paint_54 : decode b_PC_paint 54 = .ok (.iload_n 1, 1) := by decide +kernel
theorem d_PC_paint_55 : decode b_PC_paint 55 = .ok (.iconst 4, 1) := by decide +kernel
theorem d_PC_paint_56 : decode b_PC_paint 56 = .ok (.iload_n 3, 1) := by decide +kernel
theorem d_PC_paint_57 : decode b_PC_paint 57 = .ok (.i2l, 1) := by decide +kernel
theorem d_PC_paint_58 : decode b_PC_paint 58 = .ok (.invokevirtual 57, 3) := by decide +kernel
theorem d_PC_paint_61 : decode b_PC_paint 61 = .ok (.aload_n 0, 1) := by decide +kernel
theorem d_PC_paint_62 : decode b_PC_paint 62 = .ok (.getfield 26, 3) := by decide +kernel
theorem d_PC_paint_65 : decode b_PC_paint 65 = .ok (.iload_n 1, 1) := by decide +kernel
theorem d_PC_paint_66 : decode b_PC_paint 66 = .ok (.iconst 5, 1) := by decide +kernel
theorem d_PC_paint_67 : decode b_PC_paint 67 = .ok (.iload 4, 2) := by decide +kernel
theorem d_PC_paint_69 : decode b_PC_paint 69 = .ok (.i2l, 1) := by decide +kernel
theorem d_PC_paint_70 : decode b_PC_paint 70 = .ok (.invokevirtual 57, 3) := by decide +kernel
theorem d_PC_paint_73 : decode b_PC_paint 73 = .ok (.iconst 1, 1) := by decide +kernel
theorem d_PC_paint_74 : decode b_PC_paint 74 = .ok (.ireturn, 1) := by decide +kernel
theorem d_PC_cut_0 : decode b_PC_cut 0 = .ok (.aload_n 0, 1) := by decide +kernel
theorem d_PC_cut_1 : decode b_PC_cut 1 = .ok (.getfield 34, 3) := by decide +kernel
theorem d_PC_cut_4 : decode b_PC_cut 4 = .ok (.invokevirtual 65, 3) := by decide +kernel
theorem d_PC_cut_7 : decode b_PC_cut 7 = .ok (.iconst 0, 1) := by decide +kernel
theorem d_PC_cut_8 : decode b_PC_cut 8 = .ok (.istore_n 2, 1) := by decide +kernel
theorem d_PC_cut_9 : decode b_PC_cut 9 = .ok (.iload_n 2, 1) := by decide +kernel
theorem d_PC_cut_10 : decode b_PC_cut 10 = .ok (.iconst 3, 1) := by decide +kernel
theorem d_PC_cut_11 : decode b_PC_cut 11 = .ok (.if_icmp .ge 21, 3) := by decide +kernel
theorem d_PC_cut_14 : decode b_PC_cut 14 = .ok (.aload_n 0, 1) := by decide +kernel
theorem d_PC_cut_15 : decode b_PC_cut 15 = .ok (.getfield 34, 3) := by decide +kernel
theorem d_PC_cut_18 : decode b_PC_cut 18 = .ok (.aload_n 0, 1) := by decide +kernel
theorem d_PC_cut_19 : decode b_PC_cut 19 = .ok (.getfield 26, 3) := by decide +kernel
theorem d_PC_cut_22 : decode b_PC_cut 22 = .ok (.iload_n 2, 1) := by decide +kernel
theorem d_PC_cut_23 : decode b_PC_cut 23 = .ok (.invokevirtual 68, 3) := by decide +kernel
theorem d_PC_cut_26 : decode b_PC_cut 26 = .ok (.iinc 2 1, 3) := by decide +kernel
theorem d_PC_cut_29 : decode b_PC_cut 29 = .ok (.goto (-20), 3) := by decide +kernel
theorem d_PC_cut_32 : decode b_PC_cut 32 = .ok (.iconst 0, 1) := by decide +kernel
theorem d_PC_cut_33 : decode b_PC_cut 33 = .ok (.istore_n 2, 1) := by decide +kernel
theorem d_PC_cut_34 : decode b_PC_cut 34 = .ok (.iload_n 2, 1) := by decide +kernel
theorem d_PC_cut_35 : decode b_PC_cut 35 = .ok (.iconst 5, 1) := by decide +kernel
theorem d_PC_cut_36 : decode b_PC_cut 36 = .ok (.if_icmp .ge 14, 3) := by decide +kernel
theorem d_PC_cut_39 : decode b_PC_cut 39 = .ok (.aload_n 0, 1) := by decide +kernel
theorem d_PC_cut_40 : decode b_PC_cut 40 = .ok (.iload_n 2, 1) := by decide +kernel
theorem d_PC_cut_41 : decode b_PC_cut 41 = .ok (.invokevirtual 72, 3) := by decide +kernel
theorem d_PC_cut_44 : decode b_PC_cut 44 = .ok (.iinc 2 1, 3) := by decide +kernel
theorem d_PC_cut_47 : decode b_PC_cut 47 = .ok (.goto (-13), 3) := by decide +kernel
theorem d_PC_cut_50 : decode b_PC_cut 50 = .ok (.aload_n 0, 1) := by decide +kernel
theorem d_PC_cut_51 : decode b_PC_cut 51 = .ok (.invokevirtual 76, 3) := by decide +kernel
theorem d_PC_cut_54 : decode b_PC_cut 54 = .ok (.aload_n 0, 1) := by decide +kernel
theorem d_PC_cut_55 : decode b_PC_cut 55 = .ok (.iload_n 1, 1) := by decide +kernel
theorem d_PC_cut_56 : decode b_PC_cut 56 = .ok (.invokevirtual 79, 3) := by decide +kernel
theorem d_PC_cut_59 : decode b_PC_cut 59 = .ok (.aload_n 0, 1) := by decide +kernel
theorem d_PC_cut_60 : decode b_PC_cut 60 = .ok (.getfield 46, 3) := by decide +kernel
theorem d_PC_cut_63 : decode b_PC_cut 63 = .ok (.getfield 83, 3) := by decide +kernel
theorem d_PC_cut_66 : decode b_PC_cut 66 = .ok (.ireturn, 1) := by decide +kernel
theorem d_PC_piece_0 : decode b_PC_piece 0 = .ok (.aload_n 0, 1) := by decide +kernel
theorem d_PC_piece_1 : decode b_PC_piece 1 = .ok (.getfield 40, 3) := by decide +kernel
theorem d_PC_piece_4 : decode b_PC_piece 4 = .ok (.aload_n 0, 1) := by decide +kernel
theorem d_PC_piece_5 : decode b_PC_piece 5 = .ok (.getfield 46, 3) := by decide +kernel
theorem d_PC_piece_8 : decode b_PC_piece 8 = .ok (.iload_n 1, 1) := by decide +kernel
theorem d_PC_piece_9 : decode b_PC_piece 9 = .ok (.iload_n 2, 1) := by decide +kernel
theorem d_PC_piece_10 : decode b_PC_piece 10 = .ok (.invokevirtual 86, 3) := by decide +kernel
theorem d_PC_piece_13 : decode b_PC_piece 13 = .ok (.iload_n 3, 1) := by decide +kernel
theorem d_PC_piece_14 : decode b_PC_piece 14 = .ok (.invokevirtual 90, 3) := by decide +kernel
theorem d_PC_piece_17 : decode b_PC_piece 17 = .ok (.l2i, 1) := by decide +kernel
theorem d_PC_piece_18 : decode b_PC_piece 18 = .ok (.ireturn, 1) := by decide +kernel
theorem d_PC_area_0 : decode b_PC_area 0 = .ok (.aload_n 0, 1) := by decide +kernel
theorem d_PC_area_1 : decode b_PC_area 1 = .ok (.getfield 46, 3) := by decide +kernel
theorem d_PC_area_4 : decode b_PC_area 4 = .ok (.iload_n 1, 1) := by decide +kernel
theorem d_PC_area_5 : decode b_PC_area 5 = .ok (.invokevirtual 94, 3) := by decide +kernel
theorem d_PC_area_8 : decode b_PC_area 8 = .ok (.ifCond .eq 15, 3) := by decide +kernel
theorem d_PC_area_11 : decode b_PC_area 11 = .ok (.aload_n 0, 1) := by decide +kernel
theorem d_PC_area_12 : decode b_PC_area 12 = .ok (.getfield 46, 3) := by decide +kernel
theorem d_PC_area_15 : decode b_PC_area 15 = .ok (.getfield 95, 3) := by decide +kernel
theorem d_PC_area_18 : decode b_PC_area 18 = .ok (.iload_n 1, 1) := by decide +kernel
theorem d_PC_area_19 : decode b_PC_area 19 = .ok (.iaload, 1) := by decide +kernel
theorem d_PC_area_20 : decode b_PC_area 20 = .ok (.goto 4, 3) := by decide +kernel
theorem d_PC_area_23 : decode b_PC_area 23 = .ok (.iconst (-1), 1) := by decide +kernel
theorem d_PC_area_24 : decode b_PC_area 24 = .ok (.ireturn, 1) := by decide +kernel
theorem d_PC_first_0 : decode b_PC_first 0 = .ok (.iconst 0, 1) := by decide +kernel
theorem d_PC_first_1 : decode b_PC_first 1 = .ok (.istore_n 3, 1) := by decide +kernel
theorem d_PC_first_2 : decode b_PC_first 2 = .ok (.iload_n 3, 1) := by decide +kernel
theorem d_PC_first_3 : decode b_PC_first 3 = .ok (.aload_n 0, 1) := by decide +kernel
theorem d_PC_first_4 : decode b_PC_first 4 = .ok (.getfield 13, 3) := by decide +kernel
theorem d_PC_first_7 : decode b_PC_first 7 = .ok (.if_icmp .ge 21, 3) := by decide +kernel
theorem d_PC_first_10 : decode b_PC_first 10 = .ok (.aload_n 0, 1) := by decide +kernel
theorem d_PC_first_11 : decode b_PC_first 11 = .ok (.iload_n 1, 1) := by decide +kernel
theorem d_PC_first_12 : decode b_PC_first 12 = .ok (.iload_n 3, 1) := by decide +kernel
theorem d_PC_first_13 : decode b_PC_first 13 = .ok (.iload_n 2, 1) := by decide +kernel
theorem d_PC_first_14 : decode b_PC_first 14 = .ok (.invokevirtual 99, 3) := by decide +kernel
theorem d_PC_first_17 : decode b_PC_first 17 = .ok (.ifCond .eq 5, 3) := by decide +kernel
theorem d_PC_first_20 : decode b_PC_first 20 = .ok (.iload_n 3, 1) := by decide +kernel
theorem d_PC_first_21 : decode b_PC_first 21 = .ok (.ireturn, 1) := by decide +kernel
theorem d_PC_first_22 : decode b_PC_first 22 = .ok (.iinc 3 1, 3) := by decide +kernel
theorem d_PC_first_25 : decode b_PC_first 25 = .ok (.goto (-23), 3) := by decide +kernel
theorem d_PC_first_28 : decode b_PC_first 28 = .ok (.iconst (-1), 1) := by decide +kernel
theorem d_PC_first_29 : decode b_PC_first 29 = .ok (.ireturn, 1) := by decide +kernel
theorem d_PC_last_0 : decode b_PC_last 0 = .ok (.aload_n 0, 1) := by decide +kernel
theorem d_PC_last_1 : decode b_PC_last 1 = .ok (.getfield 13, 3) := by decide +kernel
theorem d_PC_last_4 : decode b_PC_last 4 = .ok (.iconst 1, 1) := by decide +kernel
theorem d_PC_last_5 : decode b_PC_last 5 = .ok (.isub, 1) := by decide +kernel
theorem d_PC_last_6 : decode b_PC_last 6 = .ok (.istore_n 3, 1) := by decide +kernel
theorem d_PC_last_7 : decode b_PC_last 7 = .ok (.iload_n 3, 1) := by decide +kernel
theorem d_PC_last_8 : decode b_PC_last 8 = .ok (.ifCond .lt 21, 3) := by decide +kernel
theorem d_PC_last_11 : decode b_PC_last 11 = .ok (.aload_n 0, 1) := by decide +kernel
theorem d_PC_last_12 : decode b_PC_last 12 = .ok (.iload_n 1, 1) := by decide +kernel
theorem d_PC_last_13 : decode b_PC_last 13 = .ok (.iload_n 3, 1) := by decide +kernel
theorem d_PC_last_14 : decode b_PC_last 14 = .ok (.iload_n 2, 1) := by decide +kernel
theorem d_PC_last_15 : decode b_PC_last 15 = .ok (.invokevirtual 99, 3) := by decide +kernel
theorem d_PC_last_18 : decode b_PC_last 18 = .ok (.ifCond .eq 5, 3) := by decide +kernel
theorem d_PC_last_21 : decode b_PC_last 21 = .ok (.iload_n 3, 1) := by decide +kernel
theorem d_PC_last_22 : decode b_PC_last 22 = .ok (.ireturn, 1) := by decide +kernel
theorem d_PC_last_23 : decode b_PC_last 23 = .ok (.iinc 3 (-1), 3) := by decide +kernel
theorem d_PC_last_26 : decode b_PC_last 26 = .ok (.goto (-19), 3) := by decide +kernel
theorem d_PC_last_29 : decode b_PC_last 29 = .ok (.iconst (-1), 1) := by decide +kernel
theorem d_PC_last_30 : decode b_PC_last 30 = .ok (.ireturn, 1) := by decide +kernel
theorem d_PC_near_0 : decode b_PC_near 0 = .ok (.aload_n 0, 1) := by decide +kernel
theorem d_PC_near_1 : decode b_PC_near 1 = .ok (.iload_n 1, 1) := by decide +kernel
theorem d_PC_near_2 : decode b_PC_near 2 = .ok (.iload_n 2, 1) := by decide +kernel
theorem d_PC_near_3 : decode b_PC_near 3 = .ok (.iload_n 3, 1) := by decide +kernel
theorem d_PC_near_4 : decode b_PC_near 4 = .ok (.invokevirtual 99, 3) := by decide +kernel
theorem d_PC_near_7 : decode b_PC_near 7 = .ok (.ifCond .ne 5, 3) := by decide +kernel
theorem d_PC_near_10 : decode b_PC_near 10 = .ok (.iconst (-1), 1) := by decide +kernel
theorem d_PC_near_11 : decode b_PC_near 11 = .ok (.ireturn, 1) := by decide +kernel
theorem d_PC_near_12 : decode b_PC_near 12 = .ok (.aload_n 0, 1) := by decide +kernel
theorem d_PC_near_13 : decode b_PC_near 13 = .ok (.iload_n 1, 1) := by decide +kernel
theorem d_PC_near_14 : decode b_PC_near 14 = .ok (.iload_n 2, 1) := by decide +kernel
theorem d_PC_near_15 : decode b_PC_near 15 = .ok (.iload_n 3, 1) := by decide +kernel
theorem d_PC_near_16 : decode b_PC_near 16 = .ok (.invokevirtual 103, 3) := by decide +kernel
theorem d_PC_near_19 : decode b_PC_near 19 = .ok (.aload_n 0, 1) := by decide +kernel
theorem d_PC_near_20 : decode b_PC_near 20 = .ok (.iload_n 1, 1) := by decide +kernel
theorem d_PC_near_21 : decode b_PC_near 21 = .ok (.invokevirtual 107, 3) := by decide +kernel
theorem d_PC_near_24 : decode b_PC_near 24 = .ok (.i2l, 1) := by decide +kernel
theorem d_PC_near_25 : decode b_PC_near 25 = .ok (.invokestatic 110, 3) := by decide +kernel
theorem d_PC_near_28 : decode b_PC_near 28 = .ok (.l2i, 1) := by decide +kernel
theorem d_PC_near_29 : decode b_PC_near 29 = .ok (.ireturn, 1) := by decide +kernel
theorem d_PC_number_0 : decode b_PC_number 0 = .ok (.iload 4, 2) := by decide +kernel
theorem d_PC_number_2 : decode b_PC_number 2 = .ok (.ifCond .lt 19, 3) := by decide +kernel
theorem d_PC_number_5 : decode b_PC_number 5 = .ok (.iload 4, 2) := by decide +kernel
theorem d_PC_number_7 : decode b_PC_number 7 = .ok (.iconst 3, 1) := by decide +kernel
theorem d_PC_number_8 : decode b_PC_number 8 = .ok (.if_icmp .ge 13, 3) := by decide +kernel
theorem d_PC_number_11 : decode b_PC_number 11 = .ok (.aload_n 0, 1) := by decide +kernel
theorem d_PC_number_12 : decode b_PC_number 12 = .ok (.iload_n 1, 1) := by decide +kernel
theorem d_PC_number_13 : decode b_PC_number 13 = .ok (.iload_n 2, 1) := by decide +kernel
theorem d_PC_number_14 : decode b_PC_number 14 = .ok (.iload_n 3, 1) := by decide +kernel
theorem d_PC_number_15 : decode b_PC_number 15 = .ok (.invokevirtual 99, 3) := by decide +kernel
theorem d_PC_number_18 : decode b_PC_number 18 = .ok (.ifCond .ne 5, 3) := by decide +kernel
theorem d_PC_number_21 : decode b_PC_number 21 = .ok (.iconst 0, 1) := by decide +kernel
theorem d_PC_number_22 : decode b_PC_number 22 = .ok (.ireturn, 1) := by decide +kernel
theorem d_PC_number_23 : decode b_PC_number 23 = .ok (.lconst 0, 1) := by decide +kernel
theorem d_PC_number_24 : decode b_PC_number 24 = .ok (.lstore 5, 2) := by decide +kernel
theorem d_PC_number_26 : decode b_PC_number 26 = .ok (.iconst 0, 1) := by decide +kernel
theorem d_PC_number_27 : decode b_PC_number 27 = .ok (.istore 7, 2) := by decide +kernel
theorem d_PC_number_29 : decode b_PC_number 29 = .ok (.iload 7, 2) := by decide +kernel
theorem d_PC_number_31 : decode b_PC_number 31 = .ok (.iconst 3, 1) := by decide +kernel
theorem d_PC_number_32 : decode b_PC_number 32 = .ok (.if_icmp .ge 45, 3) := by decide +kernel
theorem d_PC_number_35 : decode b_PC_number 35 = .ok (.lload 5, 2) := by decide +kernel
theorem d_PC_number_37 : decode b_PC_number 37 = .ok (.aload_n 0, 1) := by decide +kernel
theorem d_PC_number_38 : decode b_PC_number 38 = .ok (.iload_n 1, 1) := by decide +kernel
theorem d_PC_number_39 : decode b_PC_number 39 = .ok (.iload 7, 2) := by decide +kernel
theorem d_PC_number_41 : decode b_PC_number 41 = .ok (.iload_n 2, 1) := by decide +kernel
theorem d_PC_number_42 : decode b_PC_number 42 = .ok (.iload_n 3, 1) := by decide +kernel
theorem d_PC_number_43 : decode b_PC_number 43 = .ok (.invokevirtual 114, 3) := by decide +kernel
theorem d_PC_number_46 : decode b_PC_number 46 = .ok (.aload_n 0, 1) := by decide +kernel
theorem d_PC_number_47 : decode b_PC_number 47 = .ok (.getfield 40, 3) := by decide +kernel
theorem d_PC_number_50 : decode b_PC_number 50 = .ok (.aload_n 0, 1) := by decide +kernel
theorem d_PC_number_51 : decode b_PC_number 51 = .ok (.getfield 46, 3) := by decide +kernel
theorem d_PC_number_54 : decode b_PC_number 54 = .ok (.iload_n 1, 1) := by decide +kernel
theorem d_PC_number_55 : decode b_PC_number 55 = .ok (.iload 7, 2) := by decide +kernel
theorem d_PC_number_57 : decode b_PC_number 57 = .ok (.invokevirtual 86, 3) := by decide +kernel
theorem d_PC_number_60 : decode b_PC_number 60 = .ok (.iconst 3, 1) := by decide +kernel
theorem d_PC_number_61 : decode b_PC_number 61 = .ok (.iload 4, 2) := by decide +kernel
theorem d_PC_number_63 : decode b_PC_number 63 = .ok (.iadd, 1) := by decide +kernel
theorem d_PC_number_64 : decode b_PC_number 64 = .ok (.invokevirtual 90, 3) := by decide +kernel
theorem d_PC_number_67 : decode b_PC_number 67 = .ok (.lmul, 1) := by decide +kernel
theorem d_PC_number_68 : decode b_PC_number 68 = .ok (.ladd, 1) := by decide +kernel
theorem d_PC_number_69 : decode b_PC_number 69 = .ok (.lstore 5, 2) := by decide +kernel
theorem d_PC_number_71 : decode b_PC_number 71 = .ok (.iinc 7 1, 3) := by decide +kernel
theorem d_PC_number_74 : decode b_PC_number 74 = .ok (.goto (-45), 3) := by decide +kernel
theorem d_PC_number_77 : decode b_PC_number 77 = .ok (.lload 5, 2) := by decide +kernel
theorem d_PC_number_79 : decode b_PC_number 79 = .ok (.aload_n 0, 1) := by decide +kernel
theorem d_PC_number_80 : decode b_PC_number 80 = .ok (.iload_n 1, 1) := by decide +kernel
theorem d_PC_number_81 : decode b_PC_number 81 = .ok (.iload_n 2, 1) := by decide +kernel
theorem d_PC_number_82 : decode b_PC_number 82 = .ok (.iload_n 3, 1) := by decide +kernel
theorem d_PC_number_83 : decode b_PC_number 83 = .ok (.invokevirtual 103, 3) := by decide +kernel
theorem d_PC_number_86 : decode b_PC_number 86 = .ok (.invokestatic 110, 3) := by decide +kernel
theorem d_PC_number_89 : decode b_PC_number 89 = .ok (.l2i, 1) := by decide +kernel
theorem d_PC_number_90 : decode b_PC_number 90 = .ok (.ireturn, 1) := by decide +kernel
theorem d_PC_covered_0 : decode b_PC_covered 0 = .ok (.aload_n 0, 1) := by decide +kernel
theorem d_PC_covered_1 : decode b_PC_covered 1 = .ok (.iload_n 1, 1) := by decide +kernel
theorem d_PC_covered_2 : decode b_PC_covered 2 = .ok (.iload_n 2, 1) := by decide +kernel
theorem d_PC_covered_3 : decode b_PC_covered 3 = .ok (.invokevirtual 118, 3) := by decide +kernel
theorem d_PC_covered_6 : decode b_PC_covered 6 = .ok (.ifCond .ne 5, 3) := by decide +kernel
theorem d_PC_covered_9 : decode b_PC_covered 9 = .ok (.iconst (-1), 1) := by decide +kernel
theorem d_PC_covered_10 : decode b_PC_covered 10 = .ok (.ireturn, 1) := by decide +kernel
theorem d_PC_covered_11 : decode b_PC_covered 11 = .ok (.iconst 0, 1) := by decide +kernel
theorem d_PC_covered_12 : decode b_PC_covered 12 = .ok (.istore_n 3, 1) := by decide +kernel
theorem d_PC_covered_13 : decode b_PC_covered 13 = .ok (.iconst 0, 1) := by decide +kernel
theorem d_PC_covered_14 : decode b_PC_covered 14 = .ok (.istore 4, 2) := by decide +kernel
theorem d_PC_covered_16 : decode b_PC_covered 16 = .ok (.iload 4, 2) := by decide +kernel
theorem d_PC_covered_18 : decode b_PC_covered 18 = .ok (.aload_n 0, 1) := by decide +kernel
theorem d_PC_covered_19 : decode b_PC_covered 19 = .ok (.getfield 46, 3) := by decide +kernel
theorem d_PC_covered_22 : decode b_PC_covered 22 = .ok (.getfield 83, 3) := by decide +kernel
theorem d_PC_covered_25 : decode b_PC_covered 25 = .ok (.if_icmp .ge 23, 3) := by decide +kernel
theorem d_PC_covered_28 : decode b_PC_covered 28 = .ok (.aload_n 0, 1) := by decide +kernel
theorem d_PC_covered_29 : decode b_PC_covered 29 = .ok (.iload 4, 2) := by decide +kernel
theorem d_PC_covered_31 : decode b_PC_covered 31 = .ok (.iload_n 1, 1) := by decide +kernel
theorem d_PC_covered_32 : decode b_PC_covered 32 = .ok (.iload_n 2, 1) := by decide +kernel
theorem d_PC_covered_33 : decode b_PC_covered 33 = .ok (.invokevirtual 99, 3) := by decide +kernel
theorem d_PC_covered_36 : decode b_PC_covered 36 = .ok (.ifCond .eq 6, 3) := by decide +kernel
theorem d_PC_covered_39 : decode b_PC_covered 39 = .ok (.iinc 3 1, 3) := by decide +kernel
theorem d_PC_covered_42 : decode b_PC_covered 42 = .ok (.iinc 4 1, 3) := by decide +kernel
theorem d_PC_covered_45 : decode b_PC_covered 45 = .ok (.goto (-29), 3) := by decide +kernel
theorem d_PC_covered_48 : decode b_PC_covered 48 = .ok (.iload_n 3, 1) := by decide +kernel
theorem d_PC_covered_49 : decode b_PC_covered 49 = .ok (.ireturn, 1) := by decide +kernel
theorem d_PC_pictureSize_0 : decode b_PC_pictureSize 0 = .ok (.bipush 8, 2) := by decide +kernel
theorem d_PC_pictureSize_2 : decode b_PC_pictureSize 2 = .ok (.bipush 48, 2) := by decide +kernel
theorem d_PC_pictureSize_4 : decode b_PC_pictureSize 4 = .ok (.iload_n 0, 1) := by decide +kernel
theorem d_PC_pictureSize_5 : decode b_PC_pictureSize 5 = .ok (.invokestatic 122, 3) := by decide +kernel
theorem d_PC_pictureSize_8 : decode b_PC_pictureSize 8 = .ok (.invokestatic 127, 3) := by decide +kernel
theorem d_PC_pictureSize_11 : decode b_PC_pictureSize 11 = .ok (.ireturn, 1) := by decide +kernel
theorem d_PC_isPlace_0 : decode b_PC_isPlace 0 = .ok (.iload_n 0, 1) := by decide +kernel
theorem d_PC_isPlace_1 : decode b_PC_isPlace 1 = .ok (.ldc 130, 2) := by decide +kernel
theorem d_PC_isPlace_3 : decode b_PC_isPlace 3 = .ok (.if_icmp .lt 13, 3) := by decide +kernel
theorem d_PC_isPlace_6 : decode b_PC_isPlace 6 = .ok (.iload_n 0, 1) := by decide +kernel
theorem d_PC_isPlace_7 : decode b_PC_isPlace 7 = .ok (.ldc 131, 2) := by decide +kernel
theorem d_PC_isPlace_9 : decode b_PC_isPlace 9 = .ok (.if_icmp .gt 7, 3) := by decide +kernel
theorem d_PC_isPlace_12 : decode b_PC_isPlace 12 = .ok (.iconst 1, 1) := by decide +kernel
theorem d_PC_isPlace_13 : decode b_PC_isPlace 13 = .ok (.goto 4, 3) := by decide +kernel
theorem d_PC_isPlace_16 : decode b_PC_isPlace 16 = .ok (.iconst 0, 1) := by decide +kernel
theorem d_PC_isPlace_17 : decode b_PC_isPlace 17 = .ok (.ireturn, 1) := by decide +kernel
theorem d_PC_isPaint_0 : decode b_PC_isPaint 0 = .ok (.iload_n 0, 1) := by decide +kernel
theorem d_PC_isPaint_1 : decode b_PC_isPaint 1 = .ok (.ldc 132, 2) := by decide +kernel
theorem d_PC_isPaint_3 : decode b_PC_isPaint 3 = .ok (.if_icmp .lt 13, 3) := by decide +kernel
theorem d_PC_isPaint_6 : decode b_PC_isPaint 6 = .ok (.iload_n 0, 1) := by decide +kernel
theorem d_PC_isPaint_7 : decode b_PC_isPaint 7 = .ok (.ldc 133, 2) := by decide +kernel
theorem d_PC_isPaint_9 : decode b_PC_isPaint 9 = .ok (.if_icmp .gt 7, 3) := by decide +kernel
theorem d_PC_isPaint_12 : decode b_PC_isPaint 12 = .ok (.iconst 1, 1) := by decide +kernel
theorem d_PC_isPaint_13 : decode b_PC_isPaint 13 = .ok (.goto 4, 3) := by decide +kernel
theorem d_PC_isPaint_16 : decode b_PC_isPaint 16 = .ok (.iconst 0, 1) := by decide +kernel
theorem d_PC_isPaint_17 : decode b_PC_isPaint 17 = .ok (.ireturn, 1) := by decide +kernel
theorem d_PC_isPixel_0 : decode b_PC_isPixel 0 = .ok (.iload_n 1, 1) := by decide +kernel
theorem d_PC_isPixel_1 : decode b_PC_isPixel 1 = .ok (.ifCond .lt 27, 3) := by decide +kernel
theorem d_PC_isPixel_4 : decode b_PC_isPixel 4 = .ok (.iload_n 1, 1) := by decide +kernel
theorem d_PC_isPixel_5 : decode b_PC_isPixel 5 = .ok (.aload_n 0, 1) := by decide +kernel
theorem d_PC_isPixel_6 : decode b_PC_isPixel 6 = .ok (.getfield 13, 3) := by decide +kernel
theorem d_PC_isPixel_9 : decode b_PC_isPixel 9 = .ok (.if_icmp .ge 19, 3) := by decide +kernel
theorem d_PC_isPixel_12 : decode b_PC_isPixel 12 = .ok (.iload_n 2, 1) := by decide +kernel
theorem d_PC_isPixel_13 : decode b_PC_isPixel 13 = .ok (.ifCond .lt 15, 3) := by decide +kernel
theorem d_PC_isPixel_16 : decode b_PC_isPixel 16 = .ok (.iload_n 2, 1) := by decide +kernel
theorem d_PC_isPixel_17 : decode b_PC_isPixel 17 = .ok (.aload_n 0, 1) := by decide +kernel
theorem d_PC_isPixel_18 : decode b_PC_isPixel 18 = .ok (.getfield 17, 3) := by decide +kernel
theorem d_PC_isPixel_21 : decode b_PC_isPixel 21 = .ok (.if_icmp .ge 7, 3) := by decide +kernel
theorem d_PC_isPixel_24 : decode b_PC_isPixel 24 = .ok (.iconst 1, 1) := by decide +kernel
theorem d_PC_isPixel_25 : decode b_PC_isPixel 25 = .ok (.goto 4, 3) := by decide +kernel
theorem d_PC_isPixel_28 : decode b_PC_isPixel 28 = .ok (.iconst 0, 1) := by decide +kernel
theorem d_PC_isPixel_29 : decode b_PC_isPixel 29 = .ok (.ireturn, 1) := by decide +kernel
theorem d_PC_div_0 : decode b_PC_div 0 = .ok (.lload_n 2, 1) := by decide +kernel
theorem d_PC_div_1 : decode b_PC_div 1 = .ok (.lconst 0, 1) := by decide +kernel
theorem d_PC_div_2 : decode b_PC_div 2 = .ok (.lcmp, 1) := by decide +kernel
theorem d_PC_div_3 : decode b_PC_div 3 = .ok (.ifCond .ne 7, 3) := by decide +kernel
theorem d_PC_div_6 : decode b_PC_div 6 = .ok (.lconst 0, 1) := by decide +kernel
theorem d_PC_div_7 : decode b_PC_div 7 = .ok (.goto 8, 3) := by decide +kernel
theorem d_PC_div_10 : decode b_PC_div 10 = .ok (.lload_n 0, 1) := by decide +kernel
theorem d_PC_div_11 : decode b_PC_div 11 = .ok (.lload_n 2, 1) := by decide +kernel
theorem d_PC_div_12 : decode b_PC_div 12 = .ok (.invokestatic 134, 3) := by decide +kernel
theorem d_PC_div_15 : decode b_PC_div 15 = .ok (.lreturn, 1) := by decide +kernel
theorem d_PC_cutBySide_0 : decode b_PC_cutBySide 0 = .ok (.aload_n 0, 1) := by decide +kernel
theorem d_PC_cutBySide_1 : decode b_PC_cutBySide 1 = .ok (.getfield 37, 3) := by decide +kernel
theorem d_PC_cutBySide_4 : decode b_PC_cutBySide 4 = .ok (.invokevirtual 65, 3) := by decide +kernel
theorem d_PC_cutBySide_7 : decode b_PC_cutBySide 7 = .ok (.iconst 0, 1) := by decide +kernel
theorem d_PC_cutBySide_8 : decode b_PC_cutBySide 8 = .ok (.istore_n 2, 1) := by decide +kernel
theorem d_PC_cutBySide_9 : decode b_PC_cutBySide 9 = .ok (.iload_n 2, 1) := by decide +kernel
theorem d_PC_cutBySide_10 : decode b_PC_cutBySide 10 = .ok (.aload_n 0, 1) := by decide +kernel
theorem d_PC_cutBySide_11 : decode b_PC_cutBySide 11 = .ok (.getfield 34, 3) := by decide +kernel
theorem d_PC_cutBySide_14 : decode b_PC_cutBySide 14 = .ok (.getfield 137, 3) := by decide +kernel
theorem d_PC_cutBySide_17 : decode b_PC_cutBySide 17 = .ok (.if_icmp .ge 120, 3) := by decide +kernel
theorem d_PC_cutBySide_20 : decode b_PC_cutBySide 20 = .ok (.iload_n 2, 1) := by decide +kernel
theorem d_PC_cutBySide_21 : decode b_PC_cutBySide 21 = .ok (.iconst 1, 1) := by decide +kernel
theorem d_PC_cutBySide_22 : decode b_PC_cutBySide 22 = .ok (.iadd, 1) := by decide +kernel
theorem d_PC_cutBySide_23 : decode b_PC_cutBySide 23 = .ok (.aload_n 0, 1) := by decide +kernel
theorem d_PC_cutBySide_24 : decode b_PC_cutBySide 24 = .ok (.getfield 34, 3) := by decide +kernel
theorem d_PC_cutBySide_27 : decode b_PC_cutBySide 27 = .ok (.getfield 137, 3) := by decide +kernel
theorem d_PC_cutBySide_30 : decode b_PC_cutBySide 30 = .ok (.if_icmp .ge 9, 3) := by decide +kernel
theorem d_PC_cutBySide_33 : decode b_PC_cutBySide 33 = .ok (.iload_n 2, 1) := by decide +kernel
theorem d_PC_cutBySide_34 : decode b_PC_cutBySide 34 = .ok (.iconst 1, 1) := by decide +kernel
theorem d_PC_cutBySide_35 : decode b_PC_cutBySide 35 = .ok (.iadd, 1) := by decide +kernel
theorem d_PC_cutBySide_36 : decode b_PC_cutBySide 36 = .ok (.goto 4, 3) := by decide +kernel
theorem d_PC_cutBySide_39 : decode b_PC_cutBySide 39 = .ok (.iconst 0, 1) := by decide +kernel
theorem d_PC_cutBySide_40 : decode b_PC_cutBySide 40 = .ok (.istore_n 3, 1) := by decide +kernel
theorem d_PC_cutBySide_41 : decode b_PC_cutBySide 41 = .ok (.aload_n 0, 1) := by decide +kernel
theorem d_PC_cutBySide_42 : decode b_PC_cutBySide 42 = .ok (.iload_n 2, 1) := by decide +kernel
theorem d_PC_cutBySide_43 : decode b_PC_cutBySide 43 = .ok (.iload_n 1, 1) := by decide +kernel
theorem d_PC_cutBySide_44 : decode b_PC_cutBySide 44 = .ok (.invokevirtual 138, 3) := by decide +kernel
theorem d_PC_cutBySide_47 : decode b_PC_cutBySide 47 = .ok (.lconst 0, 1) := by decide +kernel
theorem d_PC_cutBySide_48 : decode b_PC_cutBySide 48 = .ok (.lcmp, 1) := by decide +kernel
theorem d_PC_cutBySide_49 : decode b_PC_cutBySide 49 = .ok (.ifCond .lt 7, 3) := by decide +kernel
theorem d_PC_cutBySide_52 : decode b_PC_cutBySide 52 = .ok (.iconst 1, 1) := by decide +kernel
theorem d_PC_cutBySide_53 : decode b_PC_cutBySide 53 = .ok (.goto 4, 3) := by decide +kernel
theorem d_PC_cutBySide_56 : decode b_PC_cutBySide 56 = .ok (.iconst 0, 1) := by decide +kernel
theorem d_PC_cutBySide_57 : decode b_PC_cutBySide 57 = .ok (.istore 4, 2) := by decide +kernel
theorem d_PC_cutBySide_59 : decode b_PC_cutBySide 59 = .ok (.aload_n 0, 1) := by decide +kernel
theorem d_PC_cutBySide_60 : decode b_PC_cutBySide 60 = .ok (.iload_n 3, 1) := by decide +kernel
theorem d_PC_cutBySide_61 : decode b_PC_cutBySide 61 = .ok (.iload_n 1, 1) := by decide +kernel
theorem d_PC_cutBySide_62 : decode b_PC_cutBySide 62 = .ok (.invokevirtual 138, 3) := by decide +kernel
theorem d_PC_cutBySide_65 : decode b_PC_cutBySide 65 = .ok (.lconst 0, 1) := by decide +kernel
theorem d_PC_cutBySide_66 : decode b_PC_cutBySide 66 = .ok (.lcmp, 1) := by decide +kernel
theorem d_PC_cutBySide_67 : decode b_PC_cutBySide 67 = .ok (.ifCond .lt 7, 3) := by decide +kernel
theorem d_PC_cutBySide_70 : decode b_PC_cutBySide 70 = .ok (.iconst 1, 1) := by decide +kernel
theorem d_PC_cutBySide_71 : decode b_PC_cutBySide 71 = .ok (.goto 4, 3) := by decide +kernel
theorem d_PC_cutBySide_74 : decode b_PC_cutBySide 74 = .ok (.iconst 0, 1) := by decide +kernel
theorem d_PC_cutBySide_75 : decode b_PC_cutBySide 75 = .ok (.istore 5, 2) := by decide +kernel
theorem d_PC_cutBySide_77 : decode b_PC_cutBySide 77 = .ok (.iload 4, 2) := by decide +kernel
theorem d_PC_cutBySide_79 : decode b_PC_cutBySide 79 = .ok (.ifCond .eq 15, 3) := by decide +kernel
theorem d_PC_cutBySide_82 : decode b_PC_cutBySide 82 = .ok (.aload_n 0, 1) := by decide +kernel
theorem d_PC_cutBySide_83 : decode b_PC_cutBySide 83 = .ok (.getfield 37, 3) := by decide +kernel
theorem d_PC_cutBySide_86 : decode b_PC_cutBySide 86 = .ok (.aload_n 0, 1) := by decide +kernel
theorem d_PC_cutBySide_87 : decode b_PC_cutBySide 87 = .ok (.getfield 34, 3) := by decide +kernel
theorem d_PC_cutBySide_90 : decode b_PC_cutBySide 90 = .ok (.iload_n 2, 1) := by decide +kernel
theorem d_PC_cutBySide_91 : decode b_PC_cutBySide 91 = .ok (.invokevirtual 68, 3) := by decide +kernel
theorem d_PC_cutBySide_94 : decode b_PC_cutBySide 94 = .ok (.iload 4, 2) := by decide +kernel
theorem d_PC_cutBySide_96 : decode b_PC_cutBySide 96 = .ok (.ifCond .eq 18, 3) := by decide +kernel
theorem d_PC_cutBySide_99 : decode b_PC_cutBySide 99 = .ok (.iload 5, 2) := by decide +kernel
theorem d_PC_cutBySide_101 : decode b_PC_cutBySide 101 = .ok (.ifCond .ne 13, 3) := by decide +kernel
theorem d_PC_cutBySide_104 : decode b_PC_cutBySide 104 = .ok (.aload_n 0, 1) := by decide +kernel
theorem d_PC_cutBySide_105 : decode b_PC_cutBySide 105 = .ok (.iload_n 2, 1) := by decide +kernel
theorem d_PC_cutBySide_106 : decode b_PC_cutBySide 106 = .ok (.iload_n 3, 1) := by decide +kernel
theorem d_PC_cutBySide_107 : decode b_PC_cutBySide 107 = .ok (.iload_n 1, 1) := by decide +kernel
theorem d_PC_cutBySide_108 : decode b_PC_cutBySide 108 = .ok (.invokevirtual 141, 3) := by decide +kernel
theorem d_PC_cutBySide_111 : decode b_PC_cutBySide 111 = .ok (.goto 20, 3) := by decide +kernel
theorem d_PC_cutBySide_114 : decode b_PC_cutBySide 114 = .ok (.iload 4, 2) := by decide +kernel
theorem d_PC_cutBySide_116 : decode b_PC_cutBySide 116 = .ok (.ifCond .ne 15, 3) := by decide +kernel
theorem d_PC_cutBySide_119 : decode b_PC_cutBySide 119 = .ok (.iload 5, 2) := by decide +kernel
theorem d_PC_cutBySide_121 : decode b_PC_cutBySide 121 = .ok (.ifCond .eq 10, 3) := by decide +kernel
theorem d_PC_cutBySide_124 : decode b_PC_cutBySide 124 = .ok (.aload_n 0, 1) := by decide +kernel
theorem d_PC_cutBySide_125 : decode b_PC_cutBySide 125 = .ok (.iload_n 3, 1) := by decide +kernel
theorem d_PC_cutBySide_126 : decode b_PC_cutBySide 126 = .ok (.iload_n 2, 1) := by decide +kernel
theorem d_PC_cutBySide_127 : decode b_PC_cutBySide 127 = .ok (.iload_n 1, 1) := by decide +kernel
theorem d_PC_cutBySide_128 : decode b_PC_cutBySide 128 = .ok (.invokevirtual 141, 3) := by decide +kernel
theorem d_PC_cutBySide_131 : decode b_PC_cutBySide 131 = .ok (.iinc 2 1, 3) := by decide +kernel
theorem d_PC_cutBySide_134 : decode b_PC_cutBySide 134 = .ok (.goto (-125), 3) := by decide +kernel
theorem d_PC_cutBySide_137 : decode b_PC_cutBySide 137 = .ok (.aload_n 0, 1) := by decide +kernel
theorem d_PC_cutBySide_138 : decode b_PC_cutBySide 138 = .ok (.getfield 37, 3) := by decide +kernel
theorem d_PC_cutBySide_141 : decode b_PC_cutBySide 141 = .ok (.astore_n 2, 1) := by decide +kernel
theorem d_PC_cutBySide_142 : decode b_PC_cutBySide 142 = .ok (.aload_n 0, 1) := by decide +kernel
theorem d_PC_cutBySide_143 : decode b_PC_cutBySide 143 = .ok (.aload_n 0, 1) := by decide +kernel
theorem d_PC_cutBySide_144 : decode b_PC_cutBySide 144 = .ok (.getfield 34, 3) := by decide +kernel
theorem d_PC_cutBySide_147 : decode b_PC_cutBySide 147 = .ok (.putfield 37, 3) := by decide +kernel
theorem d_PC_cutBySide_150 : decode b_PC_cutBySide 150 = .ok (.aload_n 0, 1) := by decide +kernel
theorem d_PC_cutBySide_151 : decode b_PC_cutBySide 151 = .ok (.aload_n 2, 1) := by decide +kernel
theorem d_PC_cutBySide_152 : decode b_PC_cutBySide 152 = .ok (.putfield 34, 3) := by decide +kernel
theorem d_PC_cutBySide_155 : decode b_PC_cutBySide 155 = .ok (.return_, 1) := by decide +kernel
theorem d_PC_sideNumber_0 : decode b_PC_sideNumber 0 = .ok (.aload_n 0, 1) := by decide +kernel
theorem d_PC_sideNumber_1 : decode b_PC_sideNumber 1 = .ok (.getfield 20, 3) := by decide +kernel
theorem d_PC_sideNumber_4 : decode b_PC_sideNumber 4 = .ok (.i2l, 1) := by decide +kernel
theorem d_PC_sideNumber_5 : decode b_PC_sideNumber 5 = .ok (.aload_n 0, 1) := by decide +kernel
theorem d_PC_sideNumber_6 : decode b_PC_sideNumber 6 = .ok (.getfield 34, 3) := by decide +kernel
theorem d_PC_sideNumber_9 : decode b_PC_sideNumber 9 = .ok (.iload_n 1, 1) := by decide +kernel
theorem d_PC_sideNumber_10 : decode b_PC_sideNumber 10 = .ok (.iconst 0, 1) := by decide +kernel
theorem d_PC_sideNumber_11 : decode b_PC_sideNumber 11 = .ok (.invokevirtual 90, 3) := by decide +kernel
theorem d_PC_sideNumber_14 : decode b_PC_sideNumber 14 = .ok (.lmul, 1) := by decide +kernel
theorem d_PC_sideNumber_15 : decode b_PC_sideNumber 15 = .ok (.lstore_n 3, 1) := by decide +kernel
theorem d_PC_sideNumber_16 : decode b_PC_sideNumber 16 = .ok (.aload_n 0, 1) := by decide +kernel
theorem d_PC_sideNumber_17 : decode b_PC_sideNumber 17 = .ok (.getfield 20, 3) := by decide +kernel
theorem d_PC_sideNumber_20 : decode b_PC_sideNumber 20 = .ok (.i2l, 1) := by decide +kernel
theorem d_PC_sideNumber_21 : decode b_PC_sideNumber 21 = .ok (.aload_n 0, 1) := by decide +kernel
theorem d_PC_sideNumber_22 : decode b_PC_sideNumber 22 = .ok (.getfield 34, 3) := by decide +kernel
theorem d_PC_sideNumber_25 : decode b_PC_sideNumber 25 = .ok (.iload_n 1, 1) := by decide +kernel
theorem d_PC_sideNumber_26 : decode b_PC_sideNumber 26 = .ok (.iconst 1, 1) := by decide +kernel
theorem d_PC_sideNumber_27 : decode b_PC_sideNumber 27 = .ok (.invokevirtual 90, 3) := by decide +kernel
theorem d_PC_sideNumber_30 : decode b_PC_sideNumber 30 = .ok (.lmul, 1) := by decide +kernel
theorem d_PC_sideNumber_31 : decode b_PC_sideNumber 31 = .ok (.lstore 5, 2) := by decide +kernel
theorem d_PC_sideNumber_33 : decode b_PC_sideNumber 33 = .ok (.aload_n 0, 1) := by decide +kernel
theorem d_PC_sideNumber_34 : decode b_PC_sideNumber 34 = .ok (.getfield 34, 3) := by decide +kernel
theorem d_PC_sideNumber_37 : decode b_PC_sideNumber 37 = .ok (.iload_n 1, 1) := by decide +kernel
theorem d_PC_sideNumber_38 : decode b_PC_sideNumber 38 = .ok (.iconst 2, 1) := by decide +kernel
theorem d_PC_sideNumber_39 : decode b_PC_sideNumber 39 = .ok (.invokevirtual 90, 3) := by decide +kernel
theorem d_PC_sideNumber_42 : decode b_PC_sideNumber 42 = .ok (.lstore 7, 2) := by decide +kernel
theorem d_PC_sideNumber_44 : decode b_PC_sideNumber 44 = .ok (.iload_n 2, 1) := by decide +kernel
theorem d_PC_sideNumber_45 : decode b_PC_sideNumber 45 = .ok (.tableswitch 72 0 3 #[31, 38, 49, 60], 31) := by decide +kernel
theorem d_PC_sideNumber_76 : decode b_PC_sideNumber 76 = .ok (.lload 7, 2) := by decide +kernel
theorem d_PC_sideNumber_78 : decode b_PC_sideNumber 78 = .ok (.ldc2_w 145, 3) := by decide +kernel
theorem d_PC_sideNumber_81 : decode b_PC_sideNumber 81 = .ok (.lsub, 1) := by decide +kernel
theorem d_PC_sideNumber_82 : decode b_PC_sideNumber 82 = .ok (.lreturn, 1) := by decide +kernel
theorem d_PC_sideNumber_83 : decode b_PC_sideNumber 83 = .ok (.lload_n 3, 1) := by decide +kernel
theorem d_PC_sideNumber_84 : decode b_PC_sideNumber 84 = .ok (.aload_n 0, 1) := by decide +kernel
theorem d_PC_sideNumber_85 : decode b_PC_sideNumber 85 = .ok (.getfield 13, 3) := by decide +kernel
theorem d_PC_sideNumber_88 : decode b_PC_sideNumber 88 = .ok (.i2l, 1) := by decide +kernel
theorem d_PC_sideNumber_89 : decode b_PC_sideNumber 89 = .ok (.lload 7, 2) := by decide +kernel
theorem d_PC_sideNumber_91 : decode b_PC_sideNumber 91 = .ok (.lmul, 1) := by decide +kernel
theorem d_PC_sideNumber_92 : decode b_PC_sideNumber 92 = .ok (.ladd, 1) := by decide +kernel
theorem d_PC_sideNumber_93 : decode b_PC_sideNumber 93 = .ok (.lreturn, 1) := by decide +kernel
theorem d_PC_sideNumber_94 : decode b_PC_sideNumber 94 = .ok (.aload_n 0, 1) := by decide +kernel
theorem d_PC_sideNumber_95 : decode b_PC_sideNumber 95 = .ok (.getfield 13, 3) := by decide +kernel
theorem d_PC_sideNumber_98 : decode b_PC_sideNumber 98 = .ok (.i2l, 1) := by decide +kernel
theorem d_PC_sideNumber_99 : decode b_PC_sideNumber 99 = .ok (.lload 7, 2) := by decide +kernel
theorem d_PC_sideNumber_101 : decode b_PC_sideNumber 101 = .ok (.lmul, 1) := by decide +kernel
theorem d_PC_sideNumber_102 : decode b_PC_sideNumber 102 = .ok (.lload_n 3, 1) := by decide +kernel
theorem d_PC_sideNumber_103 : decode b_PC_sideNumber 103 = .ok (.lsub, 1) := by decide +kernel
theorem d_PC_sideNumber_104 : decode b_PC_sideNumber 104 = .ok (.lreturn, 1) := by decide +kernel
theorem d_PC_sideNumber_105 : decode b_PC_sideNumber 105 = .ok (.lload 5, 2) := by decide +kernel
theorem d_PC_sideNumber_107 : decode b_PC_sideNumber 107 = .ok (.aload_n 0, 1) := by decide +kernel
theorem d_PC_sideNumber_108 : decode b_PC_sideNumber 108 = .ok (.getfield 17, 3) := by decide +kernel
theorem d_PC_sideNumber_111 : decode b_PC_sideNumber 111 = .ok (.i2l, 1) := by decide +kernel
theorem d_PC_sideNumber_112 : decode b_PC_sideNumber 112 = .ok (.lload 7, 2) := by decide +kernel
theorem d_PC_sideNumber_114 : decode b_PC_sideNumber 114 = .ok (.lmul, 1) := by decide +kernel
theorem d_PC_sideNumber_115 : decode b_PC_sideNumber 115 = .ok (.ladd, 1) := by decide +kernel
theorem d_PC_sideNumber_116 : decode b_PC_sideNumber 116 = .ok (.lreturn, 1) := by decide +kernel
theorem d_PC_sideNumber_117 : decode b_PC_sideNumber 117 = .ok (.aload_n 0, 1) := by decide +kernel
theorem d_PC_sideNumber_118 : decode b_PC_sideNumber 118 = .ok (.getfield 17, 3) := by decide +kernel
theorem d_PC_sideNumber_121 : decode b_PC_sideNumber 121 = .ok (.i2l, 1) := by decide +kernel
theorem d_PC_sideNumber_122 : decode b_PC_sideNumber 122 = .ok (.lload 7, 2) := by decide +kernel
theorem d_PC_sideNumber_124 : decode b_PC_sideNumber 124 = .ok (.lmul, 1) := by decide +kernel
theorem d_PC_sideNumber_125 : decode b_PC_sideNumber 125 = .ok (.lload 5, 2) := by decide +kernel
theorem d_PC_sideNumber_127 : decode b_PC_sideNumber 127 = .ok (.lsub, 1) := by decide +kernel
theorem d_PC_sideNumber_128 : decode b_PC_sideNumber 128 = .ok (.lreturn, 1) := by decide +kernel
theorem d_PC_addBetween_0 : decode b_PC_addBetween 0 = .ok (.aload_n 0, 1) := by decide +kernel
theorem d_PC_addBetween_1 : decode b_PC_addBetween 1 = .ok (.iload_n 1, 1) := by decide +kernel
theorem d_PC_addBetween_2 : decode b_PC_addBetween 2 = .ok (.iload_n 3, 1) := by decide +kernel
theorem d_PC_addBetween_3 : decode b_PC_addBetween 3 = .ok (.invokevirtual 138, 3) := by decide +kernel
theorem d_PC_addBetween_6 : decode b_PC_addBetween 6 = .ok (.lstore 4, 2) := by decide +kernel
theorem d_PC_addBetween_8 : decode b_PC_addBetween 8 = .ok (.aload_n 0, 1) := by decide +kernel
theorem d_PC_addBetween_9 : decode b_PC_addBetween 9 = .ok (.iload_n 2, 1) := by decide +kernel
theorem d_PC_addBetween_10 : decode b_PC_addBetween 10 = .ok (.iload_n 3, 1) := by decide +kernel
theorem d_PC_addBetween_11 : decode b_PC_addBetween 11 = .ok (.invokevirtual 138, 3) := by decide +kernel
theorem d_PC_addBetween_14 : decode b_PC_addBetween 14 = .ok (.lstore 6, 2) := by decide +kernel
theorem d_PC_addBetween_16 : decode b_PC_addBetween 16 = .ok (.aload_n 0, 1) := by decide +kernel
theorem d_PC_addBetween_17 : decode b_PC_addBetween 17 = .ok (.getfield 37, 3) := by decide +kernel
theorem d_PC_addBetween_20 : decode b_PC_addBetween 20 = .ok (.invokevirtual 30, 3) := by decide +kernel
theorem d_PC_addBetween_23 : decode b_PC_addBetween 23 = .ok (.istore 8, 2) := by decide +kernel
theorem d_PC_addBetween_25 : decode b_PC_addBetween 25 = .ok (.iconst 0, 1) := by decide +kernel
theorem d_PC_addBetween_26 : decode b_PC_addBetween 26 = .ok (.istore 9, 2) := by decide +kernel
theorem d_PC_addBetween_28 : decode b_PC_addBetween 28 = .ok (.iload 9, 2) := by decide +kernel
theorem d_PC_addBetween_30 : decode b_PC_addBetween 30 = .ok (.bipush 6, 2) := by decide +kernel
theorem d_PC_addBetween_32 : decode b_PC_addBetween 32 = .ok (.if_icmp .ge 63, 3) := by decide +kernel
theorem d_PC_addBetween_35 : decode b_PC_addBetween 35 = .ok (.aload_n 0, 1) := by decide +kernel
theorem d_PC_addBetween_36 : decode b_PC_addBetween 36 = .ok (.getfield 34, 3) := by decide +kernel
theorem d_PC_addBetween_39 : decode b_PC_addBetween 39 = .ok (.iload_n 1, 1) := by decide +kernel
theorem d_PC_addBetween_40 : decode b_PC_addBetween 40 = .ok (.iload 9, 2) := by decide +kernel
theorem d_PC_addBetween_42 : decode b_PC_addBetween 42 = .ok (.invokevirtual 90, 3) := by decide +kernel
theorem d_PC_addBetween_45 : decode b_PC_addBetween 45 = .ok (.lstore 10, 2) := by decide +kernel
theorem d_PC_addBetween_47 : decode b_PC_addBetween 47 = .ok (.aload_n 0, 1) := by decide +kernel
theorem d_PC_addBetween_48 : decode b_PC_addBetween 48 = .ok (.getfield 34, 3) := by decide +kernel
theorem d_PC_addBetween_51 : decode b_PC_addBetween 51 = .ok (.iload_n 2, 1) := by decide +kernel
theorem d_PC_addBetween_52 : decode b_PC_addBetween 52 = .ok (.iload 9, 2) := by decide +kernel
theorem d_PC_addBetween_54 : decode b_PC_addBetween 54 = .ok (.invokevirtual 90, 3) := by decide +kernel
theorem d_PC_addBetween_57 : decode b_PC_addBetween 57 = .ok (.lstore 12, 2) := by decide +kernel
theorem d_PC_addBetween_59 : decode b_PC_addBetween 59 = .ok (.aload_n 0, 1) := by decide +kernel
theorem d_PC_addBetween_60 : decode b_PC_addBetween 60 = .ok (.getfield 37, 3) := by decide +kernel
theorem d_PC_addBetween_63 : decode b_PC_addBetween 63 = .ok (.iload 8, 2) := by decide +kernel
theorem d_PC_addBetween_65 : decode b_PC_addBetween 65 = .ok (.iload 9, 2) := by decide +kernel
theorem d_PC_addBetween_67 : decode b_PC_addBetween 67 = .ok (.lload 10, 2) := by decide +kernel
theorem d_PC_addBetween_69 : decode b_PC_addBetween 69 = .ok (.lload 12, 2) := by decide +kernel
theorem d_PC_addBetween_71 : decode b_PC_addBetween 71 = .ok (.lload 10, 2) := by decide +kernel
theorem d_PC_addBetween_73 : decode b_PC_addBetween 73 = .ok (.lsub, 1) := by decide +kernel
theorem d_PC_addBetween_74 : decode b_PC_addBetween 74 = .ok (.lload 4, 2) := by decide +kernel
theorem d_PC_addBetween_76 : decode b_PC_addBetween 76 = .ok (.lmul, 1) := by decide +kernel
theorem d_PC_addBetween_77 : decode b_PC_addBetween 77 = .ok (.lload 4, 2) := by decide +kernel
theorem d_PC_addBetween_79 : decode b_PC_addBetween 79 = .ok (.lload 6, 2) := by decide +kernel
theorem d_PC_addBetween_81 : decode b_PC_addBetween 81 = .ok (.lsub, 1) := by decide +kernel
theorem d_PC_addBetween_82 : decode b_PC_addBetween 82 = .ok (.invokestatic 110, 3) := by decide +kernel
theorem d_PC_addBetween_85 : decode b_PC_addBetween 85 = .ok (.ladd, 1) := by decide +kernel
theorem d_PC_addBetween_86 : decode b_PC_addBetween 86 = .ok (.invokevirtual 57, 3) := by decide +kernel
theorem d_PC_addBetween_89 : decode b_PC_addBetween 89 = .ok (.iinc 9 1, 3) := by decide +kernel
theorem d_PC_addBetween_92 : decode b_PC_addBetween 92 = .ok (.goto (-64), 3) := by decide +kernel
theorem d_PC_addBetween_95 : decode b_PC_addBetween 95 = .ok (.return_, 1) := by decide +kernel
theorem d_PC_layOnPicture_0 : decode b_PC_layOnPicture 0 = .ok (.aload_n 0, 1) := by decide +kernel
theorem d_PC_layOnPicture_1 : decode b_PC_layOnPicture 1 = .ok (.getfield 40, 3) := by decide +kernel
theorem d_PC_layOnPicture_4 : decode b_PC_layOnPicture 4 = .ok (.invokevirtual 65, 3) := by decide +kernel
theorem d_PC_layOnPicture_7 : decode b_PC_layOnPicture 7 = .ok (.iconst 0, 1) := by decide +kernel
theorem d_PC_layOnPicture_8 : decode b_PC_layOnPicture 8 = .ok (.istore_n 1, 1) := by decide +kernel
theorem d_PC_layOnPicture_9 : decode b_PC_layOnPicture 9 = .ok (.iload_n 1, 1) := by decide +kernel
theorem d_PC_layOnPicture_10 : decode b_PC_layOnPicture 10 = .ok (.aload_n 0, 1) := by decide +kernel
theorem d_PC_layOnPicture_11 : decode b_PC_layOnPicture 11 = .ok (.getfield 34, 3) := by decide +kernel
theorem d_PC_layOnPicture_14 : decode b_PC_layOnPicture 14 = .ok (.getfield 137, 3) := by decide +kernel
theorem d_PC_layOnPicture_17 : decode b_PC_layOnPicture 17 = .ok (.if_icmp .ge 131, 3) := by decide +kernel
theorem d_PC_layOnPicture_20 : decode b_PC_layOnPicture 20 = .ok (.aload_n 0, 1) := by decide +kernel
theorem d_PC_layOnPicture_21 : decode b_PC_layOnPicture 21 = .ok (.getfield 34, 3) := by decide +kernel
theorem d_PC_layOnPicture_24 : decode b_PC_layOnPicture 24 = .ok (.iload_n 1, 1) := by decide +kernel
theorem d_PC_layOnPicture_25 : decode b_PC_layOnPicture 25 = .ok (.iconst 2, 1) := by decide +kernel
theorem d_PC_layOnPicture_26 : decode b_PC_layOnPicture 26 = .ok (.invokevirtual 90, 3) := by decide +kernel
theorem d_PC_layOnPicture_29 : decode b_PC_layOnPicture 29 = .ok (.lstore_n 2, 1) := by decide +kernel
theorem d_PC_layOnPicture_30 : decode b_PC_layOnPicture 30 = .ok (.aload_n 0, 1) := by decide +kernel
theorem d_PC_layOnPicture_31 : decode b_PC_layOnPicture 31 = .ok (.getfield 40, 3) := by decide +kernel
theorem d_PC_layOnPicture_34 : decode b_PC_layOnPicture 34 = .ok (.aload_n 0, 1) := by decide +kernel
theorem d_PC_layOnPicture_35 : decode b_PC_layOnPicture 35 = .ok (.getfield 34, 3) := by decide +kernel
theorem d_PC_layOnPicture_38 : decode b_PC_layOnPicture 38 = .ok (.iload_n 1, 1) := by decide +kernel
theorem d_PC_layOnPicture_39 : decode b_PC_layOnPicture 39 = .ok (.invokevirtual 68, 3) := by decide +kernel
theorem d_PC_layOnPicture_42 : decode b_PC_layOnPicture 42 = .ok (.aload_n 0, 1) := by decide +kernel
theorem d_PC_layOnPicture_43 : decode b_PC_layOnPicture 43 = .ok (.getfield 40, 3) := by decide +kernel
theorem d_PC_layOnPicture_46 : decode b_PC_layOnPicture 46 = .ok (.iload_n 1, 1) := by decide +kernel
theorem d_PC_layOnPicture_47 : decode b_PC_layOnPicture 47 = .ok (.iconst 0, 1) := by decide +kernel
theorem d_PC_layOnPicture_48 : decode b_PC_layOnPicture 48 = .ok (.ldc2_w 147, 3) := by decide +kernel
theorem d_PC_layOnPicture_51 : decode b_PC_layOnPicture 51 = .ok (.aload_n 0, 1) := by decide +kernel
theorem d_PC_layOnPicture_52 : decode b_PC_layOnPicture 52 = .ok (.getfield 20, 3) := by decide +kernel
theorem d_PC_layOnPicture_55 : decode b_PC_layOnPicture 55 = .ok (.i2l, 1) := by decide +kernel
theorem d_PC_layOnPicture_56 : decode b_PC_layOnPicture 56 = .ok (.lmul, 1) := by decide +kernel
theorem d_PC_layOnPicture_57 : decode b_PC_layOnPicture 57 = .ok (.aload_n 0, 1) := by decide +kernel
theorem d_PC_layOnPicture_58 : decode b_PC_layOnPicture 58 = .ok (.getfield 34, 3) := by decide +kernel
theorem d_PC_layOnPicture_61 : decode b_PC_layOnPicture 61 = .ok (.iload_n 1, 1) := by decide +kernel
theorem d_PC_layOnPicture_62 : decode b_PC_layOnPicture 62 = .ok (.iconst 0, 1) := by decide +kernel
theorem d_PC_layOnPicture_63 : decode b_PC_layOnPicture 63 = .ok (.invokevirtual 90, 3) := by decide +kernel
theorem d_PC_layOnPicture_66 : decode b_PC_layOnPicture 66 = .ok (.lmul, 1) := by decide +kernel
theorem d_PC_layOnPicture_67 : decode b_PC_layOnPicture 67 = .ok (.lload_n 2, 1) := by decide +kernel
theorem d_PC_layOnPicture_68 : decode b_PC_layOnPicture 68 = .ok (.invokestatic 110, 3) := by decide +kernel
theorem d_PC_layOnPicture_71 : decode b_PC_layOnPicture 71 = .ok (.ldc2_w 149, 3) := by decide +kernel
theorem d_PC_layOnPicture_74 : decode b_PC_layOnPicture 74 = .ok (.aload_n 0, 1) := by decide +kernel
theorem d_PC_layOnPicture_75 : decode b_PC_layOnPicture 75 = .ok (.getfield 13, 3) := by decide +kernel
theorem d_PC_layOnPicture_78 : decode b_PC_layOnPicture 78 = .ok (.i2l, 1) := by decide +kernel
theorem d_PC_layOnPicture_79 : decode b_PC_layOnPicture 79 = .ok (.lmul, 1) := by decide +kernel
theorem d_PC_layOnPicture_80 : decode b_PC_layOnPicture 80 = .ok (.ladd, 1) := by decide +kernel
theorem d_PC_layOnPicture_81 : decode b_PC_layOnPicture 81 = .ok (.invokevirtual 57, 3) := by decide +kernel
theorem d_PC_layOnPicture_84 : decode b_PC_layOnPicture 84 = .ok (.aload_n 0, 1) := by decide +kernel
theorem d_PC_layOnPicture_85 : decode b_PC_layOnPicture 85 = .ok (.getfield 40, 3) := by decide +kernel
theorem d_PC_layOnPicture_88 : decode b_PC_layOnPicture 88 = .ok (.iload_n 1, 1) := by decide +kernel
theorem d_PC_layOnPicture_89 : decode b_PC_layOnPicture 89 = .ok (.iconst 1, 1) := by decide +kernel
theorem d_PC_layOnPicture_90 : decode b_PC_layOnPicture 90 = .ok (.ldc2_w 147, 3) := by decide +kernel
theorem d_PC_layOnPicture_93 : decode b_PC_layOnPicture 93 = .ok (.aload_n 0, 1) := by decide +kernel
theorem d_PC_layOnPicture_94 : decode b_PC_layOnPicture 94 = .ok (.getfield 20, 3) := by decide +kernel
theorem d_PC_layOnPicture_97 : decode b_PC_layOnPicture 97 = .ok (.i2l, 1) := by decide +kernel
theorem d_PC_layOnPicture_98 : decode b_PC_layOnPicture 98 = .ok (.lmul, 1) := by decide +kernel
theorem d_PC_layOnPicture_99 : decode b_PC_layOnPicture 99 = .ok (.aload_n 0, 1) := by decide +kernel
theorem d_PC_layOnPicture_100 : decode b_PC_layOnPicture 100 = .ok (.getfield 34, 3) := by decide +kernel
theorem d_PC_layOnPicture_103 : decode b_PC_layOnPicture 103 = .ok (.iload_n 1, 1) := by decide +kernel
theorem d_PC_layOnPicture_104 : decode b_PC_layOnPicture 104 = .ok (.iconst 1, 1) := by decide +kernel
theorem d_PC_layOnPicture_105 : decode b_PC_layOnPicture 105 = .ok (.invokevirtual 90, 3) := by decide +kernel
theorem d_PC_layOnPicture_108 : decode b_PC_layOnPicture 108 = .ok (.lmul, 1) := by decide +kernel
theorem d_PC_layOnPicture_109 : decode b_PC_layOnPicture 109 = .ok (.lload_n 2, 1) := by decide +kernel
theorem d_PC_layOnPicture_110 : decode b_PC_layOnPicture 110 = .ok (.invokestatic 110, 3) := by decide +kernel
theorem d_PC_layOnPicture_113 : decode b_PC_layOnPicture 113 = .ok (.ldc2_w 149, 3) := by decide +kernel
theorem d_PC_layOnPicture_116 : decode b_PC_layOnPicture 116 = .ok (.aload_n 0, 1) := by decide +kernel
theorem d_PC_layOnPicture_117 : decode b_PC_layOnPicture 117 = .ok (.getfield 17, 3) := by decide +kernel
theorem d_PC_layOnPicture_120 : decode b_PC_layOnPicture 120 = .ok (.i2l, 1) := by decide +kernel
theorem d_PC_layOnPicture_121 : decode b_PC_layOnPicture 121 = .ok (.lmul, 1) := by decide +kernel
theorem d_PC_layOnPicture_122 : decode b_PC_layOnPicture 122 = .ok (.ladd, 1) := by decide +kernel
theorem d_PC_layOnPicture_123 : decode b_PC_layOnPicture 123 = .ok (.invokevirtual 57, 3) := by decide +kernel
theorem d_PC_layOnPicture_126 : decode b_PC_layOnPicture 126 = .ok (.aload_n 0, 1) := by decide +kernel
theorem d_PC_layOnPicture_127 : decode b_PC_layOnPicture 127 = .ok (.getfield 40, 3) := by decide +kernel
theorem d_PC_layOnPicture_130 : decode b_PC_layOnPicture 130 = .ok (.iload_n 1, 1) := by decide +kernel
theorem d_PC_layOnPicture_131 : decode b_PC_layOnPicture 131 = .ok (.iconst 2, 1) := by decide +kernel
theorem d_PC_layOnPicture_132 : decode b_PC_layOnPicture 132 = .ok (.ldc2_w 151, 3) := by decide +kernel
theorem d_PC_layOnPicture_135 : decode b_PC_layOnPicture 135 = .ok (.lload_n 2, 1) := by decide +kernel
theorem d_PC_layOnPicture_136 : decode b_PC_layOnPicture 136 = .ok (.invokestatic 110, 3) := by decide +kernel
theorem d_PC_layOnPicture_139 : decode b_PC_layOnPicture 139 = .ok (.invokevirtual 57, 3) := by decide +kernel
theorem d_PC_layOnPicture_142 : decode b_PC_layOnPicture 142 = .ok (.iinc 1 1, 3) := by decide +kernel
theorem d_PC_layOnPicture_145 : decode b_PC_layOnPicture 145 = .ok (.goto (-136), 3) := by decide +kernel
theorem d_PC_layOnPicture_148 : decode b_PC_layOnPicture 148 = .ok (.return_, 1) := by decide +kernel
theorem d_PC_divide_0 : decode b_PC_divide 0 = .ok (.aload_n 0, 1) := by decide +kernel
theorem d_PC_divide_1 : decode b_PC_divide 1 = .ok (.getfield 46, 3) := by decide +kernel
theorem d_PC_divide_4 : decode b_PC_divide 4 = .ok (.invokevirtual 153, 3) := by decide +kernel
theorem d_PC_divide_7 : decode b_PC_divide 7 = .ok (.iconst 1, 1) := by decide +kernel
theorem d_PC_divide_8 : decode b_PC_divide 8 = .ok (.istore_n 2, 1) := by decide +kernel
theorem d_PC_divide_9 : decode b_PC_divide 9 = .ok (.iload_n 2, 1) := by decide +kernel
theorem d_PC_divide_10 : decode b_PC_divide 10 = .ok (.iconst 1, 1) := by decide +kernel
theorem d_PC_divide_11 : decode b_PC_divide 11 = .ok (.iadd, 1) := by decide +kernel
theorem d_PC_divide_12 : decode b_PC_divide 12 = .ok (.aload_n 0, 1) := by decide +kernel
theorem d_PC_divide_13 : decode b_PC_divide 13 = .ok (.getfield 40, 3) := by decide +kernel
theorem d_PC_divide_16 : decode b_PC_divide 16 = .ok (.getfield 137, 3) := by decide +kernel
theorem d_PC_divide_19 : decode b_PC_divide 19 = .ok (.if_icmp .ge 62, 3) := by decide +kernel
theorem d_PC_divide_22 : decode b_PC_divide 22 = .ok (.aload_n 0, 1) := by decide +kernel
theorem d_PC_divide_23 : decode b_PC_divide 23 = .ok (.iload_n 2, 1) := by decide +kernel
theorem d_PC_divide_24 : decode b_PC_divide 24 = .ok (.iload_n 2, 1) := by decide +kernel
theorem d_PC_divide_25 : decode b_PC_divide 25 = .ok (.iconst 1, 1) := by decide +kernel
theorem d_PC_divide_26 : decode b_PC_divide 26 = .ok (.iadd, 1) := by decide +kernel
theorem d_PC_divide_27 : decode b_PC_divide 27 = .ok (.invokevirtual 154, 3) := by decide +kernel
theorem d_PC_divide_30 : decode b_PC_divide 30 = .ok (.lstore_n 3, 1) := by decide +kernel
theorem d_PC_divide_31 : decode b_PC_divide 31 = .ok (.lload_n 3, 1) := by decide +kernel
theorem d_PC_divide_32 : decode b_PC_divide 32 = .ok (.lconst 0, 1) := by decide +kernel
theorem d_PC_divide_33 : decode b_PC_divide 33 = .ok (.lcmp, 1) := by decide +kernel
theorem d_PC_divide_34 : decode b_PC_divide 34 = .ok (.ifCond .le 18, 3) := by decide +kernel
theorem d_PC_divide_37 : decode b_PC_divide 37 = .ok (.aload_n 0, 1) := by decide +kernel
theorem d_PC_divide_38 : decode b_PC_divide 38 = .ok (.getfield 46, 3) := by decide +kernel
theorem d_PC_divide_41 : decode b_PC_divide 41 = .ok (.iload_n 2, 1) := by decide +kernel
theorem d_PC_divide_42 : decode b_PC_divide 42 = .ok (.iload_n 2, 1) := by decide +kernel
theorem d_PC_divide_43 : decode b_PC_divide 43 = .ok (.iconst 1, 1) := by decide +kernel
theorem d_PC_divide_44 : decode b_PC_divide 44 = .ok (.iadd, 1) := by decide +kernel
theorem d_PC_divide_45 : decode b_PC_divide 45 = .ok (.lload_n 3, 1) := by decide +kernel
theorem d_PC_divide_46 : decode b_PC_divide 46 = .ok (.invokevirtual 157, 3) := by decide +kernel
theorem d_PC_divide_49 : decode b_PC_divide 49 = .ok (.goto 26, 3) := by decide +kernel
theorem d_PC_divide_52 : decode b_PC_divide 52 = .ok (.lload_n 3, 1) := by decide +kernel
theorem d_PC_divide_53 : decode b_PC_divide 53 = .ok (.lconst 0, 1) := by decide +kernel
theorem d_PC_divide_54 : decode b_PC_divide 54 = .ok (.lcmp, 1) := by decide +kernel
theorem d_PC_divide_55 : decode b_PC_divide 55 = .ok (.ifCond .ge 20, 3) := by decide +kernel
theorem d_PC_divide_58 : decode b_PC_divide 58 = .ok (.iload_n 1, 1) := by decide +kernel
theorem d_PC_divide_59 : decode b_PC_divide 59 = .ok (.ifCond .eq 16, 3) := by decide +kernel
theorem d_PC_divide_62 : decode b_PC_divide 62 = .ok (.aload_n 0, 1) := by decide +kernel
theorem d_PC_divide_63 : decode b_PC_divide 63 = .ok (.getfield 46, 3) := by decide +kernel
theorem d_PC_divide_66 : decode b_PC_divide 66 = .ok (.iload_n 2, 1) := by decide +kernel
theorem d_PC_divide_67 : decode b_PC_divide 67 = .ok (.iconst 1, 1) := by decide +kernel
theorem d_PC_divide_68 : decode b_PC_divide 68 = .ok (.iadd, 1) := by decide +kernel
theorem d_PC_divide_69 : decode b_PC_divide 69 = .ok (.iload_n 2, 1) := by decide +kernel
theorem d_PC_divide_70 : decode b_PC_divide 70 = .ok (.lload_n 3, 1) := by decide +kernel
theorem d_PC_divide_71 : decode b_PC_divide 71 = .ok (.lneg, 1) := by decide +kernel
theorem d_PC_divide_72 : decode b_PC_divide 72 = .ok (.invokevirtual 157, 3) := by decide +kernel
theorem d_PC_divide_75 : decode b_PC_divide 75 = .ok (.iinc 2 1, 3) := by decide +kernel
theorem d_PC_divide_78 : decode b_PC_divide 78 = .ok (.goto (-69), 3) := by decide +kernel
theorem d_PC_divide_81 : decode b_PC_divide 81 = .ok (.return_, 1) := by decide +kernel
theorem d_PC_areaWith_0 : decode b_PC_areaWith 0 = .ok (.aload_n 0, 1) := by decide +kernel
theorem d_PC_areaWith_1 : decode b_PC_areaWith 1 = .ok (.getfield 40, 3) := by decide +kernel
theorem d_PC_areaWith_4 : decode b_PC_areaWith 4 = .ok (.iconst 0, 1) := by decide +kernel
theorem d_PC_areaWith_5 : decode b_PC_areaWith 5 = .ok (.iconst 0, 1) := by decide +kernel
theorem d_PC_areaWith_6 : decode b_PC_areaWith 6 = .ok (.invokevirtual 90, 3) := by decide +kernel
theorem d_PC_areaWith_9 : decode b_PC_areaWith 9 = .ok (.lstore_n 3, 1) := by decide +kernel
theorem d_PC_areaWith_10 : decode b_PC_areaWith 10 = .ok (.aload_n 0, 1) := by decide +kernel
theorem d_PC_areaWith_11 : decode b_PC_areaWith 11 = .ok (.getfield 40, 3) := by decide +kernel
theorem d_PC_areaWith_14 : decode b_PC_areaWith 14 = .ok (.iconst 0, 1) := by decide +kernel
theorem d_PC_areaWith_15 : decode b_PC_areaWith 15 = .ok (.iconst 1, 1) := by decide +kernel
theorem d_PC_areaWith_16 : decode b_PC_areaWith 16 = .ok (.invokevirtual 90, 3) := by decide +kernel
theorem d_PC_areaWith_19 : decode b_PC_areaWith 19 = .ok (.lstore 5, 2) := by decide +kernel
theorem d_PC_areaWith_21 : decode b_PC_areaWith 21 = .ok (.aload_n 0, 1) := by decide +kernel
theorem d_PC_areaWith_22 : decode b_PC_areaWith 22 = .ok (.getfield 40, 3) := by decide +kernel
theorem d_PC_areaWith_25 : decode b_PC_areaWith 25 = .ok (.iload_n 1, 1) := by decide +kernel
theorem d_PC_areaWith_26 : decode b_PC_areaWith 26 = .ok (.iconst 0, 1) := by decide +kernel
theorem d_PC_areaWith_27 : decode b_PC_areaWith 27 = .ok (.invokevirtual 90, 3) := by decide +kernel
theorem d_PC_areaWith_30 : decode b_PC_areaWith 30 = .ok (.lload_n 3, 1) := by decide +kernel
theorem d_PC_areaWith_31 : decode b_PC_areaWith 31 = .ok (.lsub, 1) := by decide +kernel
theorem d_PC_areaWith_32 : decode b_PC_areaWith 32 = .ok (.aload_n 0, 1) := by decide +kernel
theorem d_PC_areaWith_33 : decode b_PC_areaWith 33 = .ok (.getfield 40, 3) := by decide +kernel
theorem d_PC_areaWith_36 : decode b_PC_areaWith 36 = .ok (.iload_n 2, 1) := by decide +kernel
theorem d_PC_areaWith_37 : decode b_PC_areaWith 37 = .ok (.iconst 1, 1) := by decide +kernel
theorem d_PC_areaWith_38 : decode b_PC_areaWith 38 = .ok (.invokevirtual 90, 3) := by decide +kernel
theorem d_PC_areaWith_41 : decode b_PC_areaWith 41 = .ok (.lload 5, 2) := by decide +kernel
theorem d_PC_areaWith_43 : decode b_PC_areaWith 43 = .ok (.lsub, 1) := by decide +kernel
theorem d_PC_areaWith_44 : decode b_PC_areaWith 44 = .ok (.lmul, 1) := by decide +kernel
theorem d_PC_areaWith_45 : decode b_PC_areaWith 45 = .ok (.aload_n 0, 1) := by decide +kernel
theorem d_PC_areaWith_46 : decode b_PC_areaWith 46 = .ok (.getfield 40, 3) := by decide +kernel
theorem d_PC_areaWith_49 : decode b_PC_areaWith 49 = .ok (.iload_n 2, 1) := by decide +kernel
theorem d_PC_areaWith_50 : decode b_PC_areaWith 50 = .ok (.iconst 0, 1) := by decide +kernel
theorem d_PC_areaWith_51 : decode b_PC_areaWith 51 = .ok (.invokevirtual 90, 3) := by decide +kernel
theorem d_PC_areaWith_54 : decode b_PC_areaWith 54 = .ok (.lload_n 3, 1) := by decide +kernel
theorem d_PC_areaWith_55 : decode b_PC_areaWith 55 = .ok (.lsub, 1) := by decide +kernel
theorem d_PC_areaWith_56 : decode b_PC_areaWith 56 = .ok (.aload_n 0, 1) := by decide +kernel
theorem d_PC_areaWith_57 : decode b_PC_areaWith 57 = .ok (.getfield 40, 3) := by decide +kernel
theorem d_PC_areaWith_60 : decode b_PC_areaWith 60 = .ok (.iload_n 1, 1) := by decide +kernel
theorem d_PC_areaWith_61 : decode b_PC_areaWith 61 = .ok (.iconst 1, 1) := by decide +kernel
theorem d_PC_areaWith_62 : decode b_PC_areaWith 62 = .ok (.invokevirtual 90, 3) := by decide +kernel
theorem d_PC_areaWith_65 : decode b_PC_areaWith 65 = .ok (.lload 5, 2) := by decide +kernel
theorem d_PC_areaWith_67 : decode b_PC_areaWith 67 = .ok (.lsub, 1) := by decide +kernel
theorem d_PC_areaWith_68 : decode b_PC_areaWith 68 = .ok (.lmul, 1) := by decide +kernel
theorem d_PC_areaWith_69 : decode b_PC_areaWith 69 = .ok (.lsub, 1) := by decide +kernel
theorem d_PC_areaWith_70 : decode b_PC_areaWith 70 = .ok (.lreturn, 1) := by decide +kernel
theorem d_PC_covers_0 : decode b_PC_covers 0 = .ok (.aload_n 0, 1) := by decide +kernel
theorem d_PC_covers_1 : decode b_PC_covers 1 = .ok (.iload_n 2, 1) := by decide +kernel
theorem d_PC_covers_2 : decode b_PC_covers 2 = .ok (.iload_n 3, 1) := by decide +kernel
theorem d_PC_covers_3 : decode b_PC_covers 3 = .ok (.invokevirtual 118, 3) := by decide +kernel
theorem d_PC_covers_6 : decode b_PC_covers 6 = .ok (.ifCond .eq 14, 3) := by decide +kernel
theorem d_PC_covers_9 : decode b_PC_covers 9 = .ok (.aload_n 0, 1) := by decide +kernel
theorem d_PC_covers_10 : decode b_PC_covers 10 = .ok (.getfield 46, 3) := by decide +kernel
theorem d_PC_covers_13 : decode b_PC_covers 13 = .ok (.iload_n 1, 1) := by decide +kernel
theorem d_PC_covers_14 : decode b_PC_covers 14 = .ok (.invokevirtual 94, 3) := by decide +kernel
theorem d_PC_covers_17 : decode b_PC_covers 17 = .ok (.ifCond .ne 5, 3) := by decide +kernel
theorem d_PC_covers_20 : decode b_PC_covers 20 = .ok (.iconst 0, 1) := by decide +kernel
theorem d_PC_covers_21 : decode b_PC_covers 21 = .ok (.ireturn, 1) := by decide +kernel
theorem d_PC_covers_22 : decode b_PC_covers 22 = .ok (.iconst 0, 1) := by decide +kernel
theorem d_PC_covers_23 : decode b_PC_covers 23 = .ok (.istore 4, 2) := by decide +kernel
theorem d_PC_covers_25 : decode b_PC_covers 25 = .ok (.iload 4, 2) := by decide +kernel
theorem d_PC_covers_27 : decode b_PC_covers 27 = .ok (.iconst 3, 1) := by decide +kernel
theorem d_PC_covers_28 : decode b_PC_covers 28 = .ok (.if_icmp .ge 23, 3) := by decide +kernel
theorem d_PC_covers_31 : decode b_PC_covers 31 = .ok (.aload_n 0, 1) := by decide +kernel
theorem d_PC_covers_32 : decode b_PC_covers 32 = .ok (.iload_n 1, 1) := by decide +kernel
theorem d_PC_covers_33 : decode b_PC_covers 33 = .ok (.iload 4, 2) := by decide +kernel
theorem d_PC_covers_35 : decode b_PC_covers 35 = .ok (.iload_n 2, 1) := by decide +kernel
theorem d_PC_covers_36 : decode b_PC_covers 36 = .ok (.iload_n 3, 1) := by decide +kernel
theorem d_PC_covers_37 : decode b_PC_covers 37 = .ok (.invokevirtual 160, 3) := by decide +kernel
theorem d_PC_covers_40 : decode b_PC_covers 40 = .ok (.ifCond .ne 5, 3) := by decide +kernel
theorem d_PC_covers_43 : decode b_PC_covers 43 = .ok (.iconst 0, 1) := by decide +kernel
theorem d_PC_covers_44 : decode b_PC_covers 44 = .ok (.ireturn, 1) := by decide +kernel
theorem d_PC_covers_45 : decode b_PC_covers 45 = .ok (.iinc 4 1, 3) := by decide +kernel
theorem d_PC_covers_48 : decode b_PC_covers 48 = .ok (.goto (-23), 3) := by decide +kernel
theorem d_PC_covers_51 : decode b_PC_covers 51 = .ok (.iconst 1, 1) := by decide +kernel
theorem d_PC_covers_52 : decode b_PC_covers 52 = .ok (.ireturn, 1) := by decide +kernel
theorem d_PC_isInside_0 : decode b_PC_isInside 0 = .ok (.aload_n 0, 1) := by decide +kernel
theorem d_PC_isInside_1 : decode b_PC_isInside 1 = .ok (.iload_n 1, 1) := by decide +kernel
theorem d_PC_isInside_2 : decode b_PC_isInside 2 = .ok (.iload_n 2, 1) := by decide +kernel
theorem d_PC_isInside_3 : decode b_PC_isInside 3 = .ok (.iload_n 3, 1) := by decide +kernel
theorem d_PC_isInside_4 : decode b_PC_isInside 4 = .ok (.iload 4, 2) := by decide +kernel
theorem d_PC_isInside_6 : decode b_PC_isInside 6 = .ok (.invokevirtual 164, 3) := by decide +kernel
theorem d_PC_isInside_9 : decode b_PC_isInside 9 = .ok (.lstore 5, 2) := by decide +kernel
theorem d_PC_isInside_11 : decode b_PC_isInside 11 = .ok (.lload 5, 2) := by decide +kernel
theorem d_PC_isInside_13 : decode b_PC_isInside 13 = .ok (.lconst 0, 1) := by decide +kernel
theorem d_PC_isInside_14 : decode b_PC_isInside 14 = .ok (.lcmp, 1) := by decide +kernel
theorem d_PC_isInside_15 : decode b_PC_isInside 15 = .ok (.ifCond .eq 16, 3) := by decide +kernel
theorem d_PC_isInside_18 : decode b_PC_isInside 18 = .ok (.lload 5, 2) := by decide +kernel
theorem d_PC_isInside_20 : decode b_PC_isInside 20 = .ok (.lconst 0, 1) := by decide +kernel
theorem d_PC_isInside_21 : decode b_PC_isInside 21 = .ok (.lcmp, 1) := by decide +kernel
theorem d_PC_isInside_22 : decode b_PC_isInside 22 = .ok (.ifCond .le 7, 3) := by decide +kernel
theorem d_PC_isInside_25 : decode b_PC_isInside 25 = .ok (.iconst 1, 1) := by decide +kernel
theorem d_PC_isInside_26 : decode b_PC_isInside 26 = .ok (.goto 4, 3) := by decide +kernel
theorem d_PC_isInside_29 : decode b_PC_isInside 29 = .ok (.iconst 0, 1) := by decide +kernel
theorem d_PC_isInside_30 : decode b_PC_isInside 30 = .ok (.ireturn, 1) := by decide +kernel
theorem d_PC_isInside_31 : decode b_PC_isInside 31 = .ok (.aload_n 0, 1) := by decide +kernel
theorem d_PC_isInside_32 : decode b_PC_isInside 32 = .ok (.getfield 46, 3) := by decide +kernel
theorem d_PC_isInside_35 : decode b_PC_isInside 35 = .ok (.iload_n 1, 1) := by decide +kernel
theorem d_PC_isInside_36 : decode b_PC_isInside 36 = .ok (.iload_n 2, 1) := by decide +kernel
theorem d_PC_isInside_37 : decode b_PC_isInside 37 = .ok (.invokestatic 167, 3) := by decide +kernel
theorem d_PC_isInside_40 : decode b_PC_isInside 40 = .ok (.invokevirtual 86, 3) := by decide +kernel
theorem d_PC_isInside_43 : decode b_PC_isInside 43 = .ok (.istore 7, 2) := by decide +kernel
theorem d_PC_isInside_45 : decode b_PC_isInside 45 = .ok (.aload_n 0, 1) := by decide +kernel
theorem d_PC_isInside_46 : decode b_PC_isInside 46 = .ok (.getfield 46, 3) := by decide +kernel
theorem d_PC_isInside_49 : decode b_PC_isInside 49 = .ok (.iload_n 1, 1) := by decide +kernel
theorem d_PC_isInside_50 : decode b_PC_isInside 50 = .ok (.iload_n 2, 1) := by decide +kernel
theorem d_PC_isInside_51 : decode b_PC_isInside 51 = .ok (.invokestatic 167, 3) := by decide +kernel
theorem d_PC_isInside_54 : decode b_PC_isInside 54 = .ok (.invokestatic 167, 3) := by decide +kernel
theorem d_PC_isInside_57 : decode b_PC_isInside 57 = .ok (.invokevirtual 86, 3) := by decide +kernel
theorem d_PC_isInside_60 : decode b_PC_isInside 60 = .ok (.istore 8, 2) := by decide +kernel
theorem d_PC_isInside_62 : decode b_PC_isInside 62 = .ok (.aload_n 0, 1) := by decide +kernel
theorem d_PC_isInside_63 : decode b_PC_isInside 63 = .ok (.getfield 40, 3) := by decide +kernel
theorem d_PC_isInside_66 : decode b_PC_isInside 66 = .ok (.iload 8, 2) := by decide +kernel
theorem d_PC_isInside_68 : decode b_PC_isInside 68 = .ok (.iconst 1, 1) := by decide +kernel
theorem d_PC_isInside_69 : decode b_PC_isInside 69 = .ok (.invokevirtual 90, 3) := by decide +kernel
theorem d_PC_isInside_72 : decode b_PC_isInside 72 = .ok (.aload_n 0, 1) := by decide +kernel
theorem d_PC_isInside_73 : decode b_PC_isInside 73 = .ok (.getfield 40, 3) := by decide +kernel
theorem d_PC_isInside_76 : decode b_PC_isInside 76 = .ok (.iload 7, 2) := by decide +kernel
theorem d_PC_isInside_78 : decode b_PC_isInside 78 = .ok (.iconst 1, 1) := by decide +kernel
theorem d_PC_isInside_79 : decode b_PC_isInside 79 = .ok (.invokevirtual 90, 3) := by decide +kernel
theorem d_PC_isInside_82 : decode b_PC_isInside 82 = .ok (.lsub, 1) := by decide +kernel
theorem d_PC_isInside_83 : decode b_PC_isInside 83 = .ok (.lstore 9, 2) := by decide +kernel
theorem d_PC_isInside_85 : decode b_PC_isInside 85 = .ok (.lload 9, 2) := by decide +kernel
theorem d_PC_isInside_87 : decode b_PC_isInside 87 = .ok (.lconst 0, 1) := by decide +kernel
theorem d_PC_isInside_88 : decode b_PC_isInside 88 = .ok (.lcmp, 1) := by decide +kernel
theorem d_PC_isInside_89 : decode b_PC_isInside 89 = .ok (.ifCond .lt 34, 3) := by decide +kernel
theorem d_PC_isInside_92 : decode b_PC_isInside 92 = .ok (.lload 9, 2) := by decide +kernel
theorem d_PC_isInside_94 : decode b_PC_isInside 94 = .ok (.lconst 0, 1) := by decide +kernel
theorem d_PC_isInside_95 : decode b_PC_isInside 95 = .ok (.lcmp, 1) := by decide +kernel
theorem d_PC_isInside_96 : decode b_PC_isInside 96 = .ok (.ifCond .ne 31, 3) := by decide +kernel
theorem d_PC_isInside_99 : decode b_PC_isInside 99 = .ok (.aload_n 0, 1) := by decide +kernel
theorem d_PC_isInside_100 : decode b_PC_isInside 100 = .ok (.getfield 40, 3) := by decide +kernel
theorem d_PC_isInside_103 : decode b_PC_isInside 103 = .ok (.iload 8, 2) := by decide +kernel
theorem d_PC_isInside_105 : decode b_PC_isInside 105 = .ok (.iconst 0, 1) := by decide +kernel
theorem d_PC_isInside_106 : decode b_PC_isInside 106 = .ok (.invokevirtual 90, 3) := by decide +kernel
theorem d_PC_isInside_109 : decode b_PC_isInside 109 = .ok (.aload_n 0, 1) := by decide +kernel
theorem d_PC_isInside_110 : decode b_PC_isInside 110 = .ok (.getfield 40, 3) := by decide +kernel
theorem d_PC_isInside_113 : decode b_PC_isInside 113 = .ok (.iload 7, 2) := by decide +kernel
theorem d_PC_isInside_115 : decode b_PC_isInside 115 = .ok (.iconst 0, 1) := by decide +kernel
theorem d_PC_isInside_116 : decode b_PC_isInside 116 = .ok (.invokevirtual 90, 3) := by decide +kernel
theorem d_PC_isInside_119 : decode b_PC_isInside 119 = .ok (.lcmp, 1) := by decide +kernel
theorem d_PC_isInside_120 : decode b_PC_isInside 120 = .ok (.ifCond .le 7, 3) := by decide +kernel
theorem d_PC_isInside_123 : decode b_PC_isInside 123 = .ok (.iconst 1, 1) := by decide +kernel
theorem d_PC_isInside_124 : decode b_PC_isInside 124 = .ok (.goto 4, 3) := by decide +kernel
theorem d_PC_isInside_127 : decode b_PC_isInside 127 = .ok (.iconst 0, 1) := by decide +kernel
theorem d_PC_isInside_128 : decode b_PC_isInside 128 = .ok (.ireturn, 1) := by decide +kernel
theorem d_PC_edgeNumber_0 : decode b_PC_edgeNumber 0 = .ok (.aload_n 0, 1) := by decide +kernel
theorem d_PC_edgeNumber_1 : decode b_PC_edgeNumber 1 = .ok (.getfield 46, 3) := by decide +kernel
theorem d_PC_edgeNumber_4 : decode b_PC_edgeNumber 4 = .ok (.iload_n 1, 1) := by decide +kernel
theorem d_PC_edgeNumber_5 : decode b_PC_edgeNumber 5 = .ok (.iload_n 2, 1) := by decide +kernel
theorem d_PC_edgeNumber_6 : decode b_PC_edgeNumber 6 = .ok (.invokestatic 167, 3) := by decide +kernel
theorem d_PC_edgeNumber_9 : decode b_PC_edgeNumber 9 = .ok (.invokevirtual 86, 3) := by decide +kernel
theorem d_PC_edgeNumber_12 : decode b_PC_edgeNumber 12 = .ok (.istore 5, 2) := by decide +kernel
theorem d_PC_edgeNumber_14 : decode b_PC_edgeNumber 14 = .ok (.aload_n 0, 1) := by decide +kernel
theorem d_PC_edgeNumber_15 : decode b_PC_edgeNumber 15 = .ok (.getfield 46, 3) := by decide +kernel
theorem d_PC_edgeNumber_18 : decode b_PC_edgeNumber 18 = .ok (.iload_n 1, 1) := by decide +kernel
theorem d_PC_edgeNumber_19 : decode b_PC_edgeNumber 19 = .ok (.iload_n 2, 1) := by decide +kernel
theorem d_PC_edgeNumber_20 : decode b_PC_edgeNumber 20 = .ok (.invokestatic 167, 3) := by decide +kernel
theorem d_PC_edgeNumber_23 : decode b_PC_edgeNumber 23 = .ok (.invokestatic 167, 3) := by decide +kernel
theorem d_PC_edgeNumber_26 : decode b_PC_edgeNumber 26 = .ok (.invokevirtual 86, 3) := by decide +kernel
theorem d_PC_edgeNumber_29 : decode b_PC_edgeNumber 29 = .ok (.istore 6, 2) := by decide +kernel
theorem d_PC_edgeNumber_31 : decode b_PC_edgeNumber 31 = .ok (.aload_n 0, 1) := by decide +kernel
theorem d_PC_edgeNumber_32 : decode b_PC_edgeNumber 32 = .ok (.getfield 40, 3) := by decide +kernel
theorem d_PC_edgeNumber_35 : decode b_PC_edgeNumber 35 = .ok (.iload 5, 2) := by decide +kernel
theorem d_PC_edgeNumber_37 : decode b_PC_edgeNumber 37 = .ok (.iconst 0, 1) := by decide +kernel
theorem d_PC_edgeNumber_38 : decode b_PC_edgeNumber 38 = .ok (.invokevirtual 90, 3) := by decide +kernel
theorem d_PC_edgeNumber_41 : decode b_PC_edgeNumber 41 = .ok (.lstore 7, 2) := by decide +kernel
theorem d_PC_edgeNumber_43 : decode b_PC_edgeNumber 43 = .ok (.aload_n 0, 1) := by decide +kernel
theorem d_PC_edgeNumber_44 : decode b_PC_edgeNumber 44 = .ok (.getfield 40, 3) := by decide +kernel
theorem d_PC_edgeNumber_47 : decode b_PC_edgeNumber 47 = .ok (.iload 5, 2) := by decide +kernel
theorem d_PC_edgeNumber_49 : decode b_PC_edgeNumber 49 = .ok (.iconst 1, 1) := by decide +kernel
theorem d_PC_edgeNumber_50 : decode b_PC_edgeNumber 50 = .ok (.invokevirtual 90, 3) := by decide +kernel
theorem d_PC_edgeNumber_53 : decode b_PC_edgeNumber 53 = .ok (.lstore 9, 2) := by decide +kernel
theorem d_PC_edgeNumber_55 : decode b_PC_edgeNumber 55 = .ok (.aload_n 0, 1) := by decide +kernel
theorem d_PC_edgeNumber_56 : decode b_PC_edgeNumber 56 = .ok (.getfield 40, 3) := by decide +kernel
theorem d_PC_edgeNumber_59 : decode b_PC_edgeNumber 59 = .ok (.iload 6, 2) := by decide +kernel
theorem d_PC_edgeNumber_61 : decode b_PC_edgeNumber 61 = .ok (.iconst 0, 1) := by decide +kernel
theorem d_PC_edgeNumber_62 : decode b_PC_edgeNumber 62 = .ok (.invokevirtual 90, 3) := by decide +kernel
theorem d_PC_edgeNumber_65 : decode b_PC_edgeNumber 65 = .ok (.lload 7, 2) := by decide +kernel
theorem d_PC_edgeNumber_67 : decode b_PC_edgeNumber 67 = .ok (.lsub, 1) := by decide +kernel
theorem d_PC_edgeNumber_68 : decode b_PC_edgeNumber 68 = .ok (.iload 4, 2) := by decide +kernel
theorem d_PC_edgeNumber_70 : decode b_PC_edgeNumber 70 = .ok (.invokestatic 170, 3) := by decide +kernel
theorem d_PC_edgeNumber_73 : decode b_PC_edgeNumber 73 = .ok (.lload 9, 2) := by decide +kernel
theorem d_PC_edgeNumber_75 : decode b_PC_edgeNumber 75 = .ok (.lsub, 1) := by decide +kernel
theorem d_PC_edgeNumber_76 : decode b_PC_edgeNumber 76 = .ok (.lmul, 1) := by decide +kernel
theorem d_PC_edgeNumber_77 : decode b_PC_edgeNumber 77 = .ok (.aload_n 0, 1) := by decide +kernel
theorem d_PC_edgeNumber_78 : decode b_PC_edgeNumber 78 = .ok (.getfield 40, 3) := by decide +kernel
theorem d_PC_edgeNumber_81 : decode b_PC_edgeNumber 81 = .ok (.iload 6, 2) := by decide +kernel
theorem d_PC_edgeNumber_83 : decode b_PC_edgeNumber 83 = .ok (.iconst 1, 1) := by decide +kernel
theorem d_PC_edgeNumber_84 : decode b_PC_edgeNumber 84 = .ok (.invokevirtual 90, 3) := by decide +kernel
theorem d_PC_edgeNumber_87 : decode b_PC_edgeNumber 87 = .ok (.lload 9, 2) := by decide +kernel
theorem d_PC_edgeNumber_89 : decode b_PC_edgeNumber 89 = .ok (.lsub, 1) := by decide +kernel
theorem d_PC_edgeNumber_90 : decode b_PC_edgeNumber 90 = .ok (.iload_n 3, 1) := by decide +kernel
theorem d_PC_edgeNumber_91 : decode b_PC_edgeNumber 91 = .ok (.invokestatic 170, 3) := by decide +kernel
theorem d_PC_edgeNumber_94 : decode b_PC_edgeNumber 94 = .ok (.lload 7, 2) := by decide +kernel
theorem d_PC_edgeNumber_96 : decode b_PC_edgeNumber 96 = .ok (.lsub, 1) := by decide +kernel
theorem d_PC_edgeNumber_97 : decode b_PC_edgeNumber 97 = .ok (.lmul, 1) := by decide +kernel
theorem d_PC_edgeNumber_98 : decode b_PC_edgeNumber 98 = .ok (.lsub, 1) := by decide +kernel
theorem d_PC_edgeNumber_99 : decode b_PC_edgeNumber 99 = .ok (.lreturn, 1) := by decide +kernel
theorem d_PC_cornerAfter_0 : decode b_PC_cornerAfter 0 = .ok (.iload_n 0, 1) := by decide +kernel
theorem d_PC_cornerAfter_1 : decode b_PC_cornerAfter 1 = .ok (.iconst 2, 1) := by decide +kernel
theorem d_PC_cornerAfter_2 : decode b_PC_cornerAfter 2 = .ok (.if_icmp .ge 9, 3) := by decide +kernel
theorem d_PC_cornerAfter_5 : decode b_PC_cornerAfter 5 = .ok (.iload_n 0, 1) := by decide +kernel
theorem d_PC_cornerAfter_6 : decode b_PC_cornerAfter 6 = .ok (.iconst 1, 1) := by decide +kernel
theorem d_PC_cornerAfter_7 : decode b_PC_cornerAfter 7 = .ok (.iadd, 1) := by decide +kernel
theorem d_PC_cornerAfter_8 : decode b_PC_cornerAfter 8 = .ok (.goto 4, 3) := by decide +kernel
theorem d_PC_cornerAfter_11 : decode b_PC_cornerAfter 11 = .ok (.iconst 0, 1) := by decide +kernel
theorem d_PC_cornerAfter_12 : decode b_PC_cornerAfter 12 = .ok (.ireturn, 1) := by decide +kernel
theorem d_PC_middle_0 : decode b_PC_middle 0 = .ok (.ldc2_w 147, 3) := by decide +kernel
theorem d_PC_middle_3 : decode b_PC_middle 3 = .ok (.iload_n 0, 1) := by decide +kernel
theorem d_PC_middle_4 : decode b_PC_middle 4 = .ok (.i2l, 1) := by decide +kernel
theorem d_PC_middle_5 : decode b_PC_middle 5 = .ok (.lmul, 1) := by decide +kernel
theorem d_PC_middle_6 : decode b_PC_middle 6 = .ok (.ldc2_w 149, 3) := by decide +kernel
theorem d_PC_middle_9 : decode b_PC_middle 9 = .ok (.ladd, 1) := by decide +kernel
theorem d_PC_middle_10 : decode b_PC_middle 10 = .ok (.lreturn, 1) := by decide +kernel
theorem d_PC_weight_0 : decode b_PC_weight 0 = .ok (.aload_n 0, 1) := by decide +kernel
theorem d_PC_weight_1 : decode b_PC_weight 1 = .ok (.iload_n 1, 1) := by decide +kernel
theorem d_PC_weight_2 : decode b_PC_weight 2 = .ok (.iload_n 2, 1) := by decide +kernel
theorem d_PC_weight_3 : decode b_PC_weight 3 = .ok (.iload_n 3, 1) := by decide +kernel
theorem d_PC_weight_4 : decode b_PC_weight 4 = .ok (.iload 4, 2) := by decide +kernel
theorem d_PC_weight_6 : decode b_PC_weight 6 = .ok (.invokevirtual 164, 3) := by decide +kernel
theorem d_PC_weight_9 : decode b_PC_weight 9 = .ok (.aload_n 0, 1) := by decide +kernel
theorem d_PC_weight_10 : decode b_PC_weight 10 = .ok (.getfield 40, 3) := by decide +kernel
theorem d_PC_weight_13 : decode b_PC_weight 13 = .ok (.aload_n 0, 1) := by decide +kernel
theorem d_PC_weight_14 : decode b_PC_weight 14 = .ok (.getfield 46, 3) := by decide +kernel
theorem d_PC_weight_17 : decode b_PC_weight 17 = .ok (.iload_n 1, 1) := by decide +kernel
theorem d_PC_weight_18 : decode b_PC_weight 18 = .ok (.iload_n 2, 1) := by decide +kernel
theorem d_PC_weight_19 : decode b_PC_weight 19 = .ok (.invokevirtual 86, 3) := by decide +kernel
theorem d_PC_weight_22 : decode b_PC_weight 22 = .ok (.iconst 2, 1) := by decide +kernel
theorem d_PC_weight_23 : decode b_PC_weight 23 = .ok (.invokevirtual 90, 3) := by decide +kernel
theorem d_PC_weight_26 : decode b_PC_weight 26 = .ok (.lmul, 1) := by decide +kernel
theorem d_PC_weight_27 : decode b_PC_weight 27 = .ok (.lreturn, 1) := by decide +kernel
theorem d_PC_weightSum_0 : decode b_PC_weightSum 0 = .ok (.aload_n 0, 1) := by decide +kernel
theorem d_PC_weightSum_1 : decode b_PC_weightSum 1 = .ok (.iload_n 1, 1) := by decide +kernel
theorem d_PC_weightSum_2 : decode b_PC_weightSum 2 = .ok (.iconst 0, 1) := by decide +kernel
theorem d_PC_weightSum_3 : decode b_PC_weightSum 3 = .ok (.iload_n 2, 1) := by decide +kernel
theorem d_PC_weightSum_4 : decode b_PC_weightSum 4 = .ok (.iload_n 3, 1) := by decide +kernel
theorem d_PC_weightSum_5 : decode b_PC_weightSum 5 = .ok (.invokevirtual 114, 3) := by decide +kernel
theorem d_PC_weightSum_8 : decode b_PC_weightSum 8 = .ok (.aload_n 0, 1) := by decide +kernel
theorem d_PC_weightSum_9 : decode b_PC_weightSum 9 = .ok (.iload_n 1, 1) := by decide +kernel
theorem d_PC_weightSum_10 : decode b_PC_weightSum 10 = .ok (.iconst 1, 1) := by decide +kernel
theorem d_PC_weightSum_11 : decode b_PC_weightSum 11 = .ok (.iload_n 2, 1) := by decide +kernel
theorem d_PC_weightSum_12 : decode b_PC_weightSum 12 = .ok (.iload_n 3, 1) := by decide +kernel
theorem d_PC_weightSum_13 : decode b_PC_weightSum 13 = .ok (.invokevirtual 114, 3) := by decide +kernel
theorem d_PC_weightSum_16 : decode b_PC_weightSum 16 = .ok (.ladd, 1) := by decide +kernel
theorem d_PC_weightSum_17 : decode b_PC_weightSum 17 = .ok (.aload_n 0, 1) := by decide +kernel
theorem d_PC_weightSum_18 : decode b_PC_weightSum 18 = .ok (.iload_n 1, 1) := by decide +kernel
theorem d_PC_weightSum_19 : decode b_PC_weightSum 19 = .ok (.iconst 2, 1) := by decide +kernel
theorem d_PC_weightSum_20 : decode b_PC_weightSum 20 = .ok (.iload_n 2, 1) := by decide +kernel
theorem d_PC_weightSum_21 : decode b_PC_weightSum 21 = .ok (.iload_n 3, 1) := by decide +kernel
theorem d_PC_weightSum_22 : decode b_PC_weightSum 22 = .ok (.invokevirtual 114, 3) := by decide +kernel
theorem d_PC_weightSum_25 : decode b_PC_weightSum 25 = .ok (.ladd, 1) := by decide +kernel
theorem d_PC_weightSum_26 : decode b_PC_weightSum 26 = .ok (.lreturn, 1) := by decide +kernel
end
section
theorem mw {w c : Cond} (h : w ∈ W0) : w ∈ c :: W0 := List.mem_cons_of_mem _ h
theorem gd_1 {w c : Cond} (h : w ∈ W0) : w ∈ c :: W0 ∧ ((w.onTables && w.keeps) = true ∨ ∃ ty, w = .arrayClass ty) := ⟨mw h, W0_good w h⟩
theorem gd_0 {c cd : Cond} (h : cd ∈ W0) : GoodIn (c :: W0) (cd :: W0) := by
  intro w hw
  rcases List.mem_cons.mp hw with e | hw
  · rw [e]; exact gd_1 h
  · exact gd_1 hw
theorem gd_V {c cd : Cond} {own C : String} {idx : Nat} {y : MethodName} (h1 : Cond.methodLink own idx y ∈ W0) (h2 : Cond.instanceMethod y ∈ W0) (h3 : Cond.selects C y y ∈ W0) (h4 : Cond.initialized C ∈ W0) (h5 : cd ∈ W0) : GoodIn (c :: W0) (wsV own idx C y (cd :: W0)) := by
  intro w hw
  unfold wsV at hw
  rcases List.mem_append.mp hw with hw | hw
  · simp only [List.mem_cons, List.not_mem_nil, or_false] at hw
    rcases hw with e | e | e | e <;> rw [e]
    · exact gd_1 h1
    · exact gd_1 h2
    · exact gd_1 h3
    · exact gd_1 h4
  · exact gd_0 h5 w hw
theorem gd_S {c cd : Cond} {own : String} {idx : Nat} {y : MethodName} (h1 : Cond.methodLink own idx y ∈ W0) (h2 : Cond.static y ∈ W0) (h4 : Cond.initialized y.cls ∈ W0) (h5 : cd ∈ W0) : GoodIn (c :: W0) (va_wsS own idx y (cd :: W0)) := by
  intro w hw
  unfold va_wsS at hw
  rcases List.mem_append.mp hw with hw | hw
  · simp only [List.mem_cons, List.not_mem_nil, or_false] at hw
    rcases hw with e | e | e <;> rw [e]
    · exact gd_1 h1
    · exact gd_1 h2
    · exact gd_1 h4
  · exact gd_0 h5 w hw
/-- the links to private members of nest mates -/
def nw_all (U : State) : Prop := ∀ w ∈ nw_list, va_Nw w U
def nw_kind (w : Cond) : Bool := match w with
  | .fieldLinkNest .. => true
  | .methodLinkNest .. => true
  | _ => false
theorem nw_kinds : ∀ w ∈ nw_list, nw_kind w = true := by
  intro w h
  exact List.all_eq_true.mp (show nw_list.all nw_kind = true by decide +kernel) w h
theorem nw_tab {w : Cond} (h : nw_kind w = true) : w.onTables = true := by
  cases w <;> first | rfl | (simp [nw_kind] at h)
theorem nw_same {u U : State} (h : u.vm = U.vm) (hN : nw_all u) : nw_all U := fun w hw => va_Nw.same (nw_tab (nw_kinds w hw)) h (hN w hw)
theorem nw_warm1 {w : Cond} {s U : State} (h : nw_kind w = true) (hW : s.WarmedH U.vm) (hN : va_Nw w s) : va_Nw w U := by
  cases w <;> first | exact va_Nw.warmF hW hN | exact va_Nw.warmM hW hN | (simp [nw_kind] at h)
theorem nw_warm {s U : State} (hW : s.WarmedH U.vm) (hN : nw_all s) : nw_all U := fun w hw => nw_warm1 (nw_kinds w hw) hW (hN w hw)
abbrev ty_2 (cJ cI : ClassId) : List (ClassId × FieldType) := [(cJ, .long), (cI, .int)]
/-- what a reading method asks: the cells, the classes, the links -/
abbrev rq_ro (D : va_G) (cJ cI : ClassId) (av : List Value) (ws : va_W) : Array Value → State → Prop := va_Pc av (fun U => va_P D cls4 ws U.heap ∧ va_K D cls4 (ty_2 cJ cI) U ∧ nw_all U)
/-- what a writing method asks -/
abbrev rq_rw (D : va_G) (cJ cI : ClassId) (sz : Nat) (av : List Value) (ws : va_W) : Array Value → State → Prop := va_Pc av (fun U => U.heap.size = sz ∧ va_P D cls4 ws U.heap ∧ va_K D cls4 (ty_2 cJ cI) U ∧ nw_all U ∧ va_D (fun _ => True) ws)
/-- the world behind a writing method -/
def rz (D : va_G) (A : Nat → Prop) (ws : va_W) (_ : Unit) (t : State) : Prop := va_P D cls4 ws t.heap ∧ va_D A ws
theorem fb_ro {D : va_G} {cJ cI : ClassId} {av : List Value} {ws : va_W} : FrameBlind (rq_ro D cJ cI av ws) := by
  intro a U g mk q
  obtain ⟨q0, qP, qK, qN⟩ := q
  exact ⟨q0, qP, va_K.moved (u := U) (U := U.calling g mk a) (Vm.Alike.refl U.vm) qK, nw_same (u := U) rfl qN⟩
theorem fb_rw {D : va_G} {cJ cI : ClassId} {sz : Nat} {av : List Value} {ws : va_W} : FrameBlind (rq_rw D cJ cI sz av ws) := by
  intro a U g mk q
  obtain ⟨q0, qz, qP, qK, qN, qD⟩ := q
  exact ⟨q0, qz, qP, va_K.moved (u := U) (U := U.calling g mk a) (Vm.Alike.refl U.vm) qK, nw_same (u := U) rfl qN, qD⟩
theorem pre_ro {D : va_G} {cJ cI : ClassId} {av : List Value} {ws : va_W} {s : State} {H : Heap} (hK : va_K D cls4 (ty_2 cJ cI) s) (hN : nw_all s) (hP : va_P D cls4 ws H) : ∀ U : State, U.heap = H → s.WarmedH U.vm → rq_ro D cJ cI av ws av.toArray U :=
  fun U hU hW => ⟨rfl, by rw [hU]; exact hP, va_K.moved hW.alike hK, nw_warm hW hN⟩
theorem pre_rw {D : va_G} {cJ cI : ClassId} {av : List Value} {ws : va_W} {A : Nat → Prop} {s : State} {H : Heap} (hK : va_K D cls4 (ty_2 cJ cI) s) (hN : nw_all s) (hP : va_P D cls4 ws H) (hD : va_D A ws) : ∀ U : State, U.heap = H → s.WarmedH U.vm → rq_rw D cJ cI H.size av ws av.toArray U :=
  fun U hU hW => ⟨rfl, by rw [hU], by rw [hU]; exact hP, va_K.moved hW.alike hK, nw_warm hW hN, hD.weaken (fun _ _ _ _ => trivial)⟩
theorem va_nil {D : va_G} {cl : List vw_C} {H : Heap} : va_P D cl [] H := fun k q h => by simp at h
theorem nk_set_0 : (0 : Int32) = nI 0 := rfl
theorem nk_set_1 : (1 : Int32) = nI 1 := rfl
theorem nk_set_2 : (2 : Int32) = nI 2 := rfl
theorem nk_set_3 : (3 : Int32) = nI 3 := rfl
theorem nk_set_4 : (4 : Int32) = nI 4 := rfl
theorem nk_set_5 : (5 : Int32) = nI 5 := rfl
theorem nk_set_6 : (6 : Int32) = nI 6 := rfl
theorem nk_set_7 : (7 : Int32) = nI 7 := rfl
theorem nk_set_12 : (12 : Int32) = nI 12 := rfl
theorem nk_set_13 : (13 : Int32) = nI 13 := rfl
theorem nk_set_18 : (18 : Int32) = nI 18 := rfl
end
section
/-! The document's numbers, pure: DIV, the sides, one cut of a ring. All of it is this verifier's own text. -/
/-- DIV as the reference works it out -/
def pu_div (a b : Int64) : Int64 := if a < a / b * b then a / b - 1 else a / b
theorem pu_fl {a b x : Int} (hb : 0 < b) (h1 : x * b ≤ a) (h2 : a < x * b + b) : a / b = x :=
  ((Int.ediv_emod_unique (r := a - x * b) hb).mpr ⟨by rw [Int.mul_comm b x]; omega, by omega, by omega⟩).1
theorem pu_tdiv {a b : Int} (hb : 0 < b) : (0 ≤ a → a.tdiv b * b ≤ a ∧ a < a.tdiv b * b + b) ∧ (a < 0 → a ≤ a.tdiv b * b ∧ a.tdiv b * b < a + b) := by
  have h1 := Int.tdiv_mul_add_tmod a b
  have h2 := Int.tmod_lt_of_pos a hb
  have h3 := Int.lt_tmod_of_pos a hb
  refine ⟨fun h => ?_, fun h => ?_⟩
  · have h4 := Int.tmod_nonneg b h
    omega
  · have h4 := Int.tmod_nonneg (a := -a) b (by omega)
    rw [Int.neg_tmod] at h4
    omega
theorem pu_toInt (x : Int64) : -2 ^ 63 ≤ x.toInt ∧ x.toInt < 2 ^ 63 := ⟨x.le_toInt, x.toInt_lt⟩
theorem pu_toInt32 (x : Int32) : -2 ^ 31 ≤ x.toInt ∧ x.toInt < 2 ^ 31 := ⟨x.le_toInt, x.toInt_lt⟩
/-- quotient and product of the machine, by their integers, for a divisor above 0 -/
theorem pu_quot {a b : Int64} (hb : 0 < b.toInt) : (a / b).toInt = a.toInt.tdiv b.toInt ∧ (a / b * b).toInt = a.toInt.tdiv b.toInt * b.toInt := by
  have ha := pu_toInt a
  have hb2 := pu_toInt b
  have hq : (a / b).toInt = a.toInt.tdiv b.toInt := Jvm.Kit.i64_div (fun h => by omega)
  obtain ⟨t1, t2⟩ := pu_tdiv (a := a.toInt) hb
  refine ⟨hq, ?_⟩
  rw [Jvm.Kit.i64_mul, hq]
  · rw [hq]
    rcases Int.lt_or_le a.toInt 0 with h | h
    · have := t2 h; omega
    · have := t1 h; omega
  · rw [hq]
    rcases Int.lt_or_le a.toInt 0 with h | h
    · have := t2 h; omega
    · have := t1 h; omega
theorem pu_one : (1 : Int64).toInt = 1 := by decide
theorem pu_div_toInt {a b : Int64} (hb : 0 < b.toInt) : (pu_div a b).toInt = a.toInt / b.toInt := by
  have ha := pu_toInt a
  have hb2 := pu_toInt b
  obtain ⟨hq, hm⟩ := pu_quot (a := a) hb
  obtain ⟨t1, t2⟩ := pu_tdiv (a := a.toInt) hb
  have hr : -2 ^ 63 ≤ (a / b).toInt ∧ (a / b).toInt < 2 ^ 63 := pu_toInt _
  unfold pu_div
  split
  · next h =>
    rw [Int64.lt_iff_toInt_lt, hm] at h
    have hneg : a.toInt < 0 := by
      rcases Int.lt_or_le a.toInt 0 with g | g
      · exact g
      · have := t1 g; omega
    have h2 := t2 hneg
    have hle : a.toInt.tdiv b.toInt ≤ 0 := by
      rcases Int.lt_or_le 0 (a.toInt.tdiv b.toInt) with g | g
      · have : b.toInt ≤ a.toInt.tdiv b.toInt * b.toInt := by
          have := Int.mul_le_mul_of_nonneg_right (show (1 : Int) ≤ a.toInt.tdiv b.toInt by omega) (show 0 ≤ b.toInt by omega)
          omega
        omega
      · exact g
    have hlow : -2 ^ 63 ≤ a.toInt.tdiv b.toInt - 1 := by
      rcases Int.lt_or_le (a.toInt.tdiv b.toInt) (-2 ^ 63 + 1) with g | g
      · have g2 : a.toInt.tdiv b.toInt = -2 ^ 63 := by rw [hq] at hr; omega
        have g3 := Int.mul_le_mul_of_nonpos_left (a := a.toInt.tdiv b.toInt) (by omega) (show (1 : Int) ≤ b.toInt by omega)
        rw [g2] at g3 h h2
        omega
      · omega
    rw [Jvm.Kit.i64_sub (by rw [hq, pu_one]; omega) (by rw [hq, pu_one]; omega), hq, pu_one]
    refine (pu_fl hb ?_ ?_).symm
    · rw [Int.sub_mul]; omega
    · rw [Int.sub_mul]; omega
  · next h =>
    rw [Int64.lt_iff_toInt_lt, hm] at h
    rw [hq]
    refine (pu_fl hb ?_ ?_).symm
    · omega
    · rcases Int.lt_or_le a.toInt 0 with g | g
      · have := t2 g; omega
      · have := t1 g; omega
/-- between p and q, a step of a out of d -/
theorem pu_mid {p q a d M : Int} (ha : 0 ≤ a) (had : a ≤ d) (hd : 0 < d) (hp : -M ≤ p ∧ p ≤ M) (hq : -M ≤ q ∧ q ≤ M) : -M ≤ p + (q - p) * a / d ∧ p + (q - p) * a / d ≤ M := by
  rcases Int.lt_or_le q p with h | h
  · have h1 : q - p ≤ (q - p) * a / d := Int.le_ediv_of_mul_le hd (Int.mul_le_mul_of_nonpos_left (by omega) had)
    have h2 : (q - p) * a / d ≤ 0 := Int.ediv_le_of_le_mul hd (by rw [Int.zero_mul]; exact Int.mul_nonpos_of_nonpos_of_nonneg (by omega) ha)
    omega
  · have h1 : (q - p) * a / d ≤ q - p := Int.ediv_le_of_le_mul hd (Int.mul_le_mul_of_nonneg_left had (by omega))
    have h2 : 0 ≤ (q - p) * a / d := Int.ediv_nonneg (Int.mul_nonneg (by omega) ha) (by omega)
    omega
theorem pu_midLow {p q a d m : Int} (ha : 0 ≤ a) (had : a ≤ d) (hd : 0 < d) (hp : m ≤ p) (hq : m ≤ q) : m ≤ p + (q - p) * a / d := by
  rcases Int.lt_or_le q p with h | h
  · have h1 : q - p ≤ (q - p) * a / d := Int.le_ediv_of_mul_le hd (Int.mul_le_mul_of_nonpos_left (by omega) had)
    omega
  · have h2 : 0 ≤ (q - p) * a / d := Int.ediv_nonneg (Int.mul_nonneg (by omega) ha) (by omega)
    omega
/-- a floor, times a factor of at most k: what the rounding costs -/
theorem pu_cost {N d al k : Int} (hd : 0 < d) (h1 : -k ≤ al) (h2 : al ≤ k) : al * N - k * d ≤ d * (al * (N / d)) := by
  have e1 : d * (N / d) ≤ N := Int.mul_ediv_self_le (by omega)
  have e2 : N < d * (N / d) + d := Int.lt_mul_ediv_self_add hd
  have e3 : d * (al * (N / d)) = al * (d * (N / d)) := by rw [← Int.mul_assoc, Int.mul_comm d al, Int.mul_assoc]
  rw [e3]
  generalize d * (N / d) = F at e1 e2 ⊢
  rcases Int.lt_or_le al 0 with h | h
  · have h3 : al * N ≤ al * F := Int.mul_le_mul_of_nonpos_left (by omega) e1
    have h4 : 0 ≤ k * d := Int.mul_nonneg (by omega) (by omega)
    omega
  · have h3 : al * N ≤ al * (F + d) := Int.mul_le_mul_of_nonneg_left (by omega) h
    have h4 : al * d ≤ k * d := Int.mul_le_mul_of_nonneg_right h2 (by omega)
    rw [Int.mul_add] at h3
    omega
/-- a side's number at the new corner: at least that of the two corners, less what the rounding costs -/
theorem pu_lin {px qx pz qz a d al be e : Int} (ha : 0 ≤ a) (had : a ≤ d) (hd : 0 < d) (h1 : -512 ≤ al ∧ al ≤ 512) (h2 : -48 ≤ be ∧ be ≤ 48) (hp : -e ≤ al * px + be * pz) (hq : -e ≤ al * qx + be * qz) :
    -(e + 560) ≤ al * (px + (qx - px) * a / d) + be * (pz + (qz - pz) * a / d) := by
  have c1 := pu_cost (N := (qx - px) * a) hd h1.1 h1.2
  have c2 := pu_cost (N := (qz - pz) * a) hd h2.1 h2.2
  generalize (qx - px) * a / d = fx at c1 ⊢
  generalize (qz - pz) * a / d = fz at c2 ⊢
  have h3 : (d - a) * (-e) ≤ (d - a) * (al * px + be * pz) := Int.mul_le_mul_of_nonneg_left hp (by omega)
  have h4 : a * (-e) ≤ a * (al * qx + be * qz) := Int.mul_le_mul_of_nonneg_left hq ha
  refine Int.le_of_mul_le_mul_left (a := d) ?_ hd
  have e1 : d * (al * (px + fx) + be * (pz + fz)) = (d - a) * (al * px + be * pz) + a * (al * qx + be * qz) + (d * (al * fx) - al * ((qx - px) * a)) + (d * (be * fz) - be * ((qz - pz) * a)) := by grind
  have e2 : d * (-(e + 560)) = (d - a) * (-e) + a * (-e) - 512 * d - 48 * d := by grind
  rw [e1, e2]
  omega
theorem pu_linS {px qx pz qz a b al be : Int} (ha : 0 ≤ a) (hb : b < 0) (h1 : -512 ≤ al ∧ al ≤ 512) (h2 : -48 ≤ be ∧ be ≤ 48) (hp : a = al * px + be * pz) (hq : b = al * qx + be * qz) :
    -560 ≤ al * (px + (qx - px) * a / (a - b)) + be * (pz + (qz - pz) * a / (a - b)) := by
  have hd : 0 < a - b := by omega
  have c1 := pu_cost (N := (qx - px) * a) hd h1.1 h1.2
  have c2 := pu_cost (N := (qz - pz) * a) hd h2.1 h2.2
  generalize (qx - px) * a / (a - b) = fx at c1 ⊢
  generalize (qz - pz) * a / (a - b) = fz at c2 ⊢
  refine Int.le_of_mul_le_mul_left (a := a - b) ?_ hd
  have e1 : (a - b) * (al * (px + fx) + be * (pz + fz)) = (a - b) * (al * px + be * pz) + a * ((al * qx + be * qz) - (al * px + be * pz)) + ((a - b) * (al * fx) - al * ((qx - px) * a)) + ((a - b) * (be * fz) - be * ((qz - pz) * a)) := by grind
  rw [← hp, ← hq] at e1
  have e2 : (a - b) * a + a * (b - a) = 0 := by grind
  omega
end
section
/-! Rings of corners, pure: rows of six numbers; a side's number; one cut; five cuts. -/
def pu_side (fo w h : Int32) (sd : Nat) (R : Nat → Int64) (c : Nat) : Int64 := match sd with
  | 0 => R (6 * c + 2) - 4096
  | 1 => fo.toInt64 * R (6 * c) + w.toInt64 * R (6 * c + 2)
  | 2 => w.toInt64 * R (6 * c + 2) - fo.toInt64 * R (6 * c)
  | 3 => fo.toInt64 * R (6 * c + 1) + h.toInt64 * R (6 * c + 2)
  | _ => h.toInt64 * R (6 * c + 2) - fo.toInt64 * R (6 * c + 1)
def pu_sideI (fo w h : Int) (sd : Nat) (x y z : Int) : Int := match sd with
  | 0 => z - 4096
  | 1 => fo * x + w * z
  | 2 => w * z - fo * x
  | 3 => fo * y + h * z
  | _ => h * z - fo * y
def pu_in (x : Int64) (M : Int) : Prop := -M ≤ x.toInt ∧ x.toInt ≤ M
def pu_fit (fo w h : Int32) : Prop := (8 ≤ fo.toInt ∧ fo.toInt ≤ 512) ∧ (8 ≤ w.toInt ∧ w.toInt ≤ 48) ∧ (8 ≤ h.toInt ∧ h.toInt ≤ 48)
theorem pu_mulB {a b A B : Int} (ha : -A ≤ a ∧ a ≤ A) (hb : -B ≤ b ∧ b ≤ B) : -(A * B) ≤ a * b ∧ a * b ≤ A * B := by
  have h1 := Int.mul_nonneg (show 0 ≤ A - a by omega) (show 0 ≤ B + b by omega)
  have h2 := Int.mul_nonneg (show 0 ≤ A + a by omega) (show 0 ≤ B - b by omega)
  have h3 := Int.mul_nonneg (show 0 ≤ A - a by omega) (show 0 ≤ B - b by omega)
  have h4 := Int.mul_nonneg (show 0 ≤ A + a by omega) (show 0 ≤ B + b by omega)
  have e1 : (A - a) * (B + b) + (A + a) * (B - b) = 2 * (A * B) - 2 * (a * b) := by grind
  have e2 : (A - a) * (B - b) + (A + a) * (B + b) = 2 * (A * B) + 2 * (a * b) := by grind
  omega
theorem pu_mul64 {x y : Int64} {A B : Int} (hx : pu_in x A) (hy : pu_in y B) (hAB : A * B < 2 ^ 63) : (x * y).toInt = x.toInt * y.toInt ∧ pu_in (x * y) (A * B) := by
  have h := pu_mulB hx hy
  have e : (x * y).toInt = x.toInt * y.toInt := Jvm.Kit.i64_mul (by omega) (by omega)
  exact ⟨e, by unfold pu_in; rw [e]; exact h⟩
theorem pu_add64 {x y : Int64} {A B : Int} (hx : pu_in x A) (hy : pu_in y B) (hAB : A + B < 2 ^ 63) : (x + y).toInt = x.toInt + y.toInt ∧ pu_in (x + y) (A + B) := by
  unfold pu_in at hx hy
  have e : (x + y).toInt = x.toInt + y.toInt := Jvm.Kit.i64_add (by omega) (by omega)
  exact ⟨e, by unfold pu_in; rw [e]; omega⟩
theorem pu_sub64 {x y : Int64} {A B : Int} (hx : pu_in x A) (hy : pu_in y B) (hAB : A + B < 2 ^ 63) : (x - y).toInt = x.toInt - y.toInt ∧ pu_in (x - y) (A + B) := by
  unfold pu_in at hx hy
  have e : (x - y).toInt = x.toInt - y.toInt := Jvm.Kit.i64_sub (by omega) (by omega)
  exact ⟨e, by unfold pu_in; rw [e]; omega⟩
theorem pu_of32 {x : Int32} {A : Int} (h : -A ≤ x.toInt ∧ x.toInt ≤ A) : pu_in x.toInt64 A := by
  unfold pu_in; rw [Jvm.Kit.i64_of_i32]; exact h
theorem pu_4096 : (4096 : Int64).toInt = 4096 := by decide
/-- corners of a ring: x, y, z in their bounds -/
def pu_c3 (x y z : Int64) : Prop := pu_in x 16777216 ∧ pu_in y 16777216 ∧ pu_in z 16777216
theorem pu_side_toInt {fo w h : Int32} (hf : pu_fit fo w h) (sd : Nat) {R : Nat → Int64} {c : Nat} (hc : pu_c3 (R (6 * c)) (R (6 * c + 1)) (R (6 * c + 2))) :
    (pu_side fo w h sd R c).toInt = pu_sideI fo.toInt w.toInt h.toInt sd (R (6 * c)).toInt (R (6 * c + 1)).toInt (R (6 * c + 2)).toInt ∧ pu_in (pu_side fo w h sd R c) 10000000000 := by
  obtain ⟨hx, hy, hz⟩ := hc
  obtain ⟨f1, w1, h1⟩ := hf
  have hfo : pu_in fo.toInt64 512 := pu_of32 (by omega)
  have hw : pu_in w.toInt64 48 := pu_of32 (by omega)
  have hh : pu_in h.toInt64 48 := pu_of32 (by omega)
  obtain ⟨ax, bx⟩ := pu_mul64 hfo hx (by decide)
  obtain ⟨ay, by'⟩ := pu_mul64 hfo hy (by decide)
  obtain ⟨aw, bw⟩ := pu_mul64 hw hz (by decide)
  obtain ⟨ah, bh⟩ := pu_mul64 hh hz (by decide)
  rw [Jvm.Kit.i64_of_i32] at ax ay aw ah
  have wide : ∀ {v : Int64} {A : Int}, pu_in v A → A ≤ 10000000000 → pu_in v 10000000000 := fun hv hA => ⟨by have := hv.1; omega, by have := hv.2; omega⟩
  match sd with
  | 0 =>
    have h4 : pu_in (4096 : Int64) 4096 := by unfold pu_in; rw [pu_4096]; omega
    obtain ⟨e, b⟩ := pu_sub64 hz h4 (by decide)
    exact ⟨by show (_ - _ : Int64).toInt = _; rw [e, pu_4096]; rfl, wide b (by decide)⟩
  | 1 =>
    obtain ⟨e, b⟩ := pu_add64 bx bw (by decide)
    exact ⟨by show (_ + _ : Int64).toInt = _; rw [e, ax, aw]; rfl, wide b (by decide)⟩
  | 2 =>
    obtain ⟨e, b⟩ := pu_sub64 bw bx (by decide)
    exact ⟨by show (_ - _ : Int64).toInt = _; rw [e, ax, aw]; rfl, wide b (by decide)⟩
  | 3 =>
    obtain ⟨e, b⟩ := pu_add64 by' bh (by decide)
    exact ⟨by show (_ + _ : Int64).toInt = _; rw [e, ay, ah]; rfl, wide b (by decide)⟩
  | n + 4 =>
    obtain ⟨e, b⟩ := pu_sub64 bh by' (by decide)
    exact ⟨by show (_ - _ : Int64).toInt = _; rw [e, ay, ah]; rfl, wide b (by decide)⟩
/-- the new corner between p (stays, number a) and q (number b), number k of its six -/
def pu_btw (p q a b : Int64) : Int64 := p + pu_div ((q - p) * a) (a - b)
theorem pu_btw_d {a b : Int64} (ha : pu_in a 10000000000) (hb : pu_in b 10000000000) (h1 : 0 ≤ a) (h2 : ¬ 0 ≤ b) : 0 ≤ a.toInt ∧ b.toInt < 0 ∧ (a - b).toInt = a.toInt - b.toInt := by
  rw [Jvm.Kit.i64_nonneg] at h1 h2
  exact ⟨h1, by omega, (pu_sub64 ha hb (by decide)).1⟩
theorem pu_btw_toInt {p q a b : Int64} (hp : pu_in p 16777216) (hq : pu_in q 16777216) (ha : pu_in a 10000000000) (hb : pu_in b 10000000000) (h1 : 0 ≤ a) (h2 : ¬ 0 ≤ b) :
    (pu_btw p q a b).toInt = p.toInt + (q.toInt - p.toInt) * a.toInt / (a.toInt - b.toInt) ∧ pu_in (pu_btw p q a b) 16777216 := by
  obtain ⟨ha0, hb0, hd⟩ := pu_btw_d ha hb h1 h2
  obtain ⟨e1, b1⟩ := pu_sub64 hq hp (by decide)
  obtain ⟨e2, b2⟩ := pu_mul64 b1 ha (by decide)
  have e3 : (pu_div ((q - p) * a) (a - b)).toInt = (q.toInt - p.toInt) * a.toInt / (a.toInt - b.toInt) := by
    rw [pu_div_toInt (by rw [hd]; omega), hd, e2, e1]
  have m := pu_mid (p := p.toInt) (q := q.toInt) (a := a.toInt) (d := a.toInt - b.toInt) (M := 16777216) ha0 (by omega) (by omega) hp hq
  have hp' := hp.1
  have hp2 := hp.2
  have e4 : (pu_btw p q a b).toInt = p.toInt + (q.toInt - p.toInt) * a.toInt / (a.toInt - b.toInt) := by
    unfold pu_btw
    rw [Jvm.Kit.i64_add (by rw [e3]; omega) (by rw [e3]; omega), e3]
  exact ⟨e4, by unfold pu_in; rw [e4]; exact m⟩
def pu_put (N : Nat → Int64) (m : Nat) (v : Nat → Int64) : Nat → Int64 := fun j => if j / 6 = m then v (j % 6) else N j
theorem pu_put_at (N : Nat → Int64) (m : Nat) (v : Nat → Int64) {k : Nat} (hk : k < 6) : pu_put N m v (6 * m + k) = v k := by
  unfold pu_put
  rw [if_pos (by omega), show (6 * m + k) % 6 = k by omega]
theorem pu_put_at0 (N : Nat → Int64) (m : Nat) (v : Nat → Int64) : pu_put N m v (6 * m) = v 0 := pu_put_at N m v (k := 0) (by decide)
theorem pu_put_ne (N : Nat → Int64) {m c : Nat} (v : Nat → Int64) {k : Nat} (hk : k < 6) (h : c ≠ m) : pu_put N m v (6 * c + k) = N (6 * c + k) := by
  unfold pu_put
  rw [if_neg (by omega)]
theorem pu_put_lt (N : Nat → Int64) {m j : Nat} (v : Nat → Int64) (h : j < 6 * m) : pu_put N m v j = N j := by
  unfold pu_put
  rw [if_neg (by omega)]
def pu_nx (n k : Nat) : Nat := if k + 1 < n then k + 1 else 0
theorem pu_nx_lt {n k : Nat} (h : k < n) : pu_nx n k < n := by unfold pu_nx; split <;> omega
def pu_new (fo w h : Int32) (sd : Nat) (R : Nat → Int64) (p q : Nat) : Nat → Int64 := fun k => pu_btw (R (6 * p + k)) (R (6 * q + k)) (pu_side fo w h sd R p) (pu_side fo w h sd R q)
/-- the first k corners of a ring of n, cut by a side -/
def pu_cs (fo w h : Int32) (sd n : Nat) (R N0 : Nat → Int64) : Nat → Nat × (Nat → Int64)
  | 0 => (0, N0)
  | k + 1 =>
    if 0 ≤ pu_side fo w h sd R k then
      if 0 ≤ pu_side fo w h sd R (pu_nx n k) then ((pu_cs fo w h sd n R N0 k).1 + 1, pu_put (pu_cs fo w h sd n R N0 k).2 (pu_cs fo w h sd n R N0 k).1 (fun j => R (6 * k + j)))
      else ((pu_cs fo w h sd n R N0 k).1 + 2, pu_put (pu_put (pu_cs fo w h sd n R N0 k).2 (pu_cs fo w h sd n R N0 k).1 (fun j => R (6 * k + j))) ((pu_cs fo w h sd n R N0 k).1 + 1) (pu_new fo w h sd R k (pu_nx n k)))
    else if 0 ≤ pu_side fo w h sd R (pu_nx n k) then ((pu_cs fo w h sd n R N0 k).1 + 1, pu_put (pu_cs fo w h sd n R N0 k).2 (pu_cs fo w h sd n R N0 k).1 (pu_new fo w h sd R (pu_nx n k) k))
    else pu_cs fo w h sd n R N0 k
theorem pu_cs_11 {fo w h : Int32} {sd n : Nat} {R N0 : Nat → Int64} {k : Nat} (h1 : 0 ≤ pu_side fo w h sd R k) (h2 : 0 ≤ pu_side fo w h sd R (pu_nx n k)) : pu_cs fo w h sd n R N0 (k + 1) = ((pu_cs fo w h sd n R N0 k).1 + 1, pu_put (pu_cs fo w h sd n R N0 k).2 (pu_cs fo w h sd n R N0 k).1 (fun j => R (6 * k + j))) := by
  rw [pu_cs, if_pos h1, if_pos h2]
theorem pu_cs_10 {fo w h : Int32} {sd n : Nat} {R N0 : Nat → Int64} {k : Nat} (h1 : 0 ≤ pu_side fo w h sd R k) (h2 : ¬ 0 ≤ pu_side fo w h sd R (pu_nx n k)) : pu_cs fo w h sd n R N0 (k + 1) = ((pu_cs fo w h sd n R N0 k).1 + 2, pu_put (pu_put (pu_cs fo w h sd n R N0 k).2 (pu_cs fo w h sd n R N0 k).1 (fun j => R (6 * k + j))) ((pu_cs fo w h sd n R N0 k).1 + 1) (pu_new fo w h sd R k (pu_nx n k))) := by
  rw [pu_cs, if_pos h1, if_neg h2]
theorem pu_cs_01 {fo w h : Int32} {sd n : Nat} {R N0 : Nat → Int64} {k : Nat} (h1 : ¬ 0 ≤ pu_side fo w h sd R k) (h2 : 0 ≤ pu_side fo w h sd R (pu_nx n k)) : pu_cs fo w h sd n R N0 (k + 1) = ((pu_cs fo w h sd n R N0 k).1 + 1, pu_put (pu_cs fo w h sd n R N0 k).2 (pu_cs fo w h sd n R N0 k).1 (pu_new fo w h sd R (pu_nx n k) k)) := by
  rw [pu_cs, if_neg h1, if_pos h2]
theorem pu_cs_00 {fo w h : Int32} {sd n : Nat} {R N0 : Nat → Int64} {k : Nat} (h1 : ¬ 0 ≤ pu_side fo w h sd R k) (h2 : ¬ 0 ≤ pu_side fo w h sd R (pu_nx n k)) : pu_cs fo w h sd n R N0 (k + 1) = pu_cs fo w h sd n R N0 k := by
  rw [pu_cs, if_neg h1, if_neg h2]
section CS
variable {fo w h : Int32} {sd n : Nat} {R N0 : Nat → Int64}
theorem pu_cs_step (k : Nat) : (pu_cs fo w h sd n R N0 k).1 ≤ (pu_cs fo w h sd n R N0 (k + 1)).1 := by
  by_cases h1 : 0 ≤ pu_side fo w h sd R k <;> by_cases h2 : 0 ≤ pu_side fo w h sd R (pu_nx n k)
  · rw [pu_cs_11 h1 h2]; dsimp only; omega
  · rw [pu_cs_10 h1 h2]; dsimp only; omega
  · rw [pu_cs_01 h1 h2]; dsimp only; omega
  · rw [pu_cs_00 h1 h2]; exact Nat.le_refl _
theorem pu_cs_mono {k j : Nat} (hkj : k ≤ j) : (pu_cs fo w h sd n R N0 k).1 ≤ (pu_cs fo w h sd n R N0 j).1 := by
  induction j with
  | zero => rw [show k = 0 by omega]; exact Nat.le_refl _
  | succ j ih =>
    rcases Nat.lt_or_ge k (j + 1) with g | g
    · exact Nat.le_trans (ih (by omega)) (pu_cs_step j)
    · rw [show k = j + 1 by omega]; exact Nat.le_refl _
/-- does the corner that comes at place k stay (place n is corner 0 again) -/
def pu_st (fo w h : Int32) (sd n : Nat) (R : Nat → Int64) (k : Nat) : Prop := 0 ≤ pu_side fo w h sd R (if k < n then k else 0)
theorem pu_st_lt {k : Nat} (hk : k < n) : pu_st fo w h sd n R k ↔ 0 ≤ pu_side fo w h sd R k := by
  unfold pu_st; rw [if_pos hk]
theorem pu_st_nx {k : Nat} : pu_st fo w h sd n R (k + 1) ↔ 0 ≤ pu_side fo w h sd R (pu_nx n k) := Iff.rfl
theorem pu_cs_hi : ∀ k, k ≤ n → (pu_st fo w h sd n R k → ((pu_st fo w h sd n R 0 → 2 * (pu_cs fo w h sd n R N0 k).1 + 1 ≤ 3 * k + 1) ∧ (¬ pu_st fo w h sd n R 0 → 2 * (pu_cs fo w h sd n R N0 k).1 + 1 ≤ 3 * k))) ∧ (¬ pu_st fo w h sd n R k → ((pu_st fo w h sd n R 0 → 2 * (pu_cs fo w h sd n R N0 k).1 ≤ 3 * k + 1) ∧ (¬ pu_st fo w h sd n R 0 → 2 * (pu_cs fo w h sd n R N0 k).1 ≤ 3 * k))) := by
  intro k
  induction k with
  | zero =>
    intro _
    have : (pu_cs fo w h sd n R N0 0).1 = 0 := rfl
    refine ⟨fun h1 => ⟨fun _ => by omega, fun g => absurd h1 g⟩, fun h1 => ⟨fun g => absurd g h1, fun _ => by omega⟩⟩
  | succ k ih =>
    intro hk
    obtain ⟨i1, i2⟩ := ih (by omega)
    by_cases h1 : 0 ≤ pu_side fo w h sd R k <;> by_cases h2 : 0 ≤ pu_side fo w h sd R (pu_nx n k)
    · have g := i1 ((pu_st_lt (by omega)).mpr h1)
      rw [pu_cs_11 h1 h2]
      refine ⟨fun _ => ⟨fun q => by have := g.1 q; dsimp only; omega, fun q => by have := g.2 q; dsimp only; omega⟩, fun q => absurd (pu_st_nx.mpr h2) q⟩
    · have g := i1 ((pu_st_lt (by omega)).mpr h1)
      rw [pu_cs_10 h1 h2]
      refine ⟨fun q => absurd (pu_st_nx.mp q) h2, fun _ => ⟨fun q => by have := g.1 q; dsimp only; omega, fun q => by have := g.2 q; dsimp only; omega⟩⟩
    · have g := i2 (fun q => h1 ((pu_st_lt (by omega)).mp q))
      rw [pu_cs_01 h1 h2]
      refine ⟨fun _ => ⟨fun q => by have := g.1 q; dsimp only; omega, fun q => by have := g.2 q; dsimp only; omega⟩, fun q => absurd (pu_st_nx.mpr h2) q⟩
    · have g := i2 (fun q => h1 ((pu_st_lt (by omega)).mp q))
      rw [pu_cs_00 h1 h2]
      refine ⟨fun q => absurd (pu_st_nx.mp q) h2, fun _ => ⟨fun q => by have := g.1 q; omega, fun q => by have := g.2 q; omega⟩⟩
theorem pu_st_n : pu_st fo w h sd n R n ↔ pu_st fo w h sd n R 0 := by
  unfold pu_st
  rw [if_neg (by omega)]
  split <;> exact Iff.rfl
/-- a side leaves at most half as many more -/
theorem pu_cs_most : 2 * (pu_cs fo w h sd n R N0 n).1 ≤ 3 * n := by
  obtain ⟨h1, h2⟩ := pu_cs_hi (fo := fo) (w := w) (h := h) (sd := sd) (R := R) (N0 := N0) n (Nat.le_refl n)
  by_cases g : pu_st fo w h sd n R 0
  · have := (h1 (pu_st_n.mpr g)).1 g; omega
  · have := (h2 (fun q => g (pu_st_n.mp q))).2 g; omega
theorem pu_cs_lo : ∀ k, k ≤ n → (pu_st fo w h sd n R 0 → (pu_st fo w h sd n R k → (pu_cs fo w h sd n R N0 k).1 = k ∨ 3 ≤ (pu_cs fo w h sd n R N0 k).1) ∧ (¬ pu_st fo w h sd n R k → 2 ≤ (pu_cs fo w h sd n R N0 k).1)) ∧ (¬ pu_st fo w h sd n R 0 → (pu_st fo w h sd n R k → 1 ≤ (pu_cs fo w h sd n R N0 k).1) ∧ (¬ pu_st fo w h sd n R k → (pu_cs fo w h sd n R N0 k).1 = 0 ∨ 3 ≤ (pu_cs fo w h sd n R N0 k).1)) := by
  intro k
  induction k with
  | zero =>
    intro _
    have : (pu_cs fo w h sd n R N0 0).1 = 0 := rfl
    refine ⟨fun g => ⟨fun _ => Or.inl this, fun q => absurd g q⟩, fun g => ⟨fun q => absurd q g, fun _ => Or.inl this⟩⟩
  | succ k ih =>
    intro hk
    obtain ⟨i1, i2⟩ := ih (by omega)
    by_cases h1 : 0 ≤ pu_side fo w h sd R k <;> by_cases h2 : 0 ≤ pu_side fo w h sd R (pu_nx n k)
    · have s1 := (pu_st_lt (sd := sd) (R := R) (fo := fo) (w := w) (h := h) (show k < n by omega)).mpr h1
      rw [pu_cs_11 h1 h2]
      refine ⟨fun g => ⟨fun _ => ?_, fun q => absurd (pu_st_nx.mpr h2) q⟩, fun g => ⟨fun _ => by dsimp only; omega, fun q => absurd (pu_st_nx.mpr h2) q⟩⟩
      have := (i1 g).1 s1
      dsimp only
      omega
    · have s1 := (pu_st_lt (sd := sd) (R := R) (fo := fo) (w := w) (h := h) (show k < n by omega)).mpr h1
      rw [pu_cs_10 h1 h2]
      refine ⟨fun g => ⟨fun q => absurd (pu_st_nx.mp q) h2, fun _ => by dsimp only; omega⟩, fun g => ⟨fun q => absurd (pu_st_nx.mp q) h2, fun _ => ?_⟩⟩
      have := (i2 g).1 s1
      dsimp only
      omega
    · have s1 : ¬ pu_st fo w h sd n R k := fun q => h1 ((pu_st_lt (by omega)).mp q)
      rw [pu_cs_01 h1 h2]
      refine ⟨fun g => ⟨fun _ => ?_, fun q => absurd (pu_st_nx.mpr h2) q⟩, fun g => ⟨fun _ => by dsimp only; omega, fun q => absurd (pu_st_nx.mpr h2) q⟩⟩
      have := (i1 g).2 s1
      dsimp only
      omega
    · have s1 : ¬ pu_st fo w h sd n R k := fun q => h1 ((pu_st_lt (by omega)).mp q)
      rw [pu_cs_00 h1 h2]
      refine ⟨fun g => ⟨fun q => absurd (pu_st_nx.mp q) h2, fun _ => (i1 g).2 s1⟩, fun g => ⟨fun q => absurd (pu_st_nx.mp q) h2, fun _ => (i2 g).2 s1⟩⟩
/-- of three or more corners a side leaves none, or three or more -/
theorem pu_cs_least (h3 : n = 0 ∨ 3 ≤ n) : (pu_cs fo w h sd n R N0 n).1 = 0 ∨ 3 ≤ (pu_cs fo w h sd n R N0 n).1 := by
  obtain ⟨h1, h2⟩ := pu_cs_lo (fo := fo) (w := w) (h := h) (sd := sd) (R := R) (N0 := N0) n (Nat.le_refl n)
  by_cases g : pu_st fo w h sd n R 0
  · have := (h1 g).1 (pu_st_n.mpr g); omega
  · have := (h2 g).2 (fun q => g (pu_st_n.mp q)); omega
theorem pu_cs_all (P : Int64 → Int64 → Int64 → Prop) (hr : ∀ c, c < n → 0 ≤ pu_side fo w h sd R c → P (R (6 * c)) (R (6 * c + 1)) (R (6 * c + 2)))
    (hn : ∀ p q, p < n → q < n → 0 ≤ pu_side fo w h sd R p → ¬ 0 ≤ pu_side fo w h sd R q → P (pu_new fo w h sd R p q 0) (pu_new fo w h sd R p q 1) (pu_new fo w h sd R p q 2)) :
    ∀ k, k ≤ n → ∀ c, c < (pu_cs fo w h sd n R N0 k).1 → P ((pu_cs fo w h sd n R N0 k).2 (6 * c)) ((pu_cs fo w h sd n R N0 k).2 (6 * c + 1)) ((pu_cs fo w h sd n R N0 k).2 (6 * c + 2)) := by
  have put : ∀ (N : Nat → Int64) (m : Nat) (v : Nat → Int64), (∀ c, c < m → P (N (6 * c)) (N (6 * c + 1)) (N (6 * c + 2))) → P (v 0) (v 1) (v 2) → ∀ c, c < m + 1 → P (pu_put N m v (6 * c)) (pu_put N m v (6 * c + 1)) (pu_put N m v (6 * c + 2)) := by
    intro N m v hN hv c hc
    rcases Nat.lt_or_ge c m with g | g
    · rw [pu_put_lt N v (show 6 * c < 6 * m by omega), pu_put_lt N v (show 6 * c + 1 < 6 * m by omega), pu_put_lt N v (show 6 * c + 2 < 6 * m by omega)]
      exact hN c g
    · have e : c = m := by omega
      subst e
      rw [pu_put_at0, pu_put_at N c v (k := 1) (by decide), pu_put_at N c v (k := 2) (by decide)]
      exact hv
  intro k
  induction k with
  | zero => intro _ c hc; exact absurd hc (Nat.not_lt_zero c)
  | succ k ih =>
    intro hk c hc
    have i := ih (by omega)
    have hx : pu_nx n k < n := pu_nx_lt (by omega)
    by_cases h1 : 0 ≤ pu_side fo w h sd R k <;> by_cases h2 : 0 ≤ pu_side fo w h sd R (pu_nx n k)
    · rw [pu_cs_11 h1 h2] at hc ⊢
      exact put _ _ (fun j => R (6 * k + j)) i (hr k (by omega) h1) c hc
    · rw [pu_cs_10 h1 h2] at hc ⊢
      exact put _ _ _ (put _ _ (fun j => R (6 * k + j)) i (hr k (by omega) h1)) (hn k _ (by omega) hx h1 h2) c hc
    · rw [pu_cs_01 h1 h2] at hc ⊢
      exact put _ _ _ i (hn _ k hx (by omega) h2 h1) c hc
    · rw [pu_cs_00 h1 h2] at hc ⊢
      exact i c hc
/-- two arrays that agree on a ring's rows give rings that agree -/
theorem pu_side_congr {R2 : Nat → Int64} {c : Nat} (hc : c < n) (hR : ∀ j, j < 6 * n → R j = R2 j) : pu_side fo w h sd R c = pu_side fo w h sd R2 c := by
  unfold pu_side
  rw [hR (6 * c) (by omega), hR (6 * c + 1) (by omega), hR (6 * c + 2) (by omega)]
theorem pu_put_congr {N N2 v v2 : Nat → Int64} {m : Nat} (hN : ∀ j, j < 6 * m → N j = N2 j) (hv : ∀ k, k < 6 → v k = v2 k) : ∀ j, j < 6 * (m + 1) → pu_put N m v j = pu_put N2 m v2 j := by
  intro j hj
  unfold pu_put
  by_cases q : j / 6 = m
  · rw [if_pos q, if_pos q, hv _ (Nat.mod_lt _ (by decide))]
  · rw [if_neg q, if_neg q, hN j (by omega)]
theorem pu_cs_congr {R2 N2 : Nat → Int64} (hR : ∀ j, j < 6 * n → R j = R2 j) : ∀ k, k ≤ n → (pu_cs fo w h sd n R N0 k).1 = (pu_cs fo w h sd n R2 N2 k).1 ∧ ∀ j, j < 6 * (pu_cs fo w h sd n R N0 k).1 → (pu_cs fo w h sd n R N0 k).2 j = (pu_cs fo w h sd n R2 N2 k).2 j := by
  intro k
  induction k with
  | zero => intro _; exact ⟨rfl, fun j hj => absurd hj (Nat.not_lt_zero j)⟩
  | succ k ih =>
    intro hk
    obtain ⟨i1, i2⟩ := ih (by omega)
    have hx : pu_nx n k < n := pu_nx_lt (by omega)
    have s1 := pu_side_congr (fo := fo) (w := w) (h := h) (sd := sd) (show k < n by omega) hR
    have s2 := pu_side_congr (fo := fo) (w := w) (h := h) (sd := sd) hx hR
    have row : ∀ q, q < 6 → R (6 * k + q) = R2 (6 * k + q) := fun q hq => hR _ (by omega)
    have nw : ∀ a b, a < n → b < n → ∀ q, q < 6 → pu_new fo w h sd R a b q = pu_new fo w h sd R2 a b q := by
      intro a b ha hb q hq
      unfold pu_new
      rw [hR (6 * a + q) (by omega), hR (6 * b + q) (by omega), pu_side_congr ha hR, pu_side_congr hb hR]
    by_cases h1 : 0 ≤ pu_side fo w h sd R k <;> by_cases h2 : 0 ≤ pu_side fo w h sd R (pu_nx n k)
    · rw [pu_cs_11 h1 h2, pu_cs_11 (by rw [← s1]; exact h1) (by rw [← s2]; exact h2)]
      dsimp only
      rw [← i1]
      exact ⟨rfl, pu_put_congr i2 row⟩
    · rw [pu_cs_10 h1 h2, pu_cs_10 (by rw [← s1]; exact h1) (by rw [← s2]; exact h2)]
      dsimp only
      rw [← i1]
      exact ⟨rfl, pu_put_congr (pu_put_congr i2 row) (nw _ _ (by omega) hx)⟩
    · rw [pu_cs_01 h1 h2, pu_cs_01 (by rw [← s1]; exact h1) (by rw [← s2]; exact h2)]
      dsimp only
      rw [← i1]
      exact ⟨rfl, pu_put_congr i2 (nw _ _ hx (by omega))⟩
    · rw [pu_cs_00 h1 h2, pu_cs_00 (by rw [← s1]; exact h1) (by rw [← s2]; exact h2)]
      exact ⟨i1, i2⟩
end CS
/-- what is known of a corner after the sides 0 .. s - 1 -/
def pu_inv (fo w h : Int32) (s : Nat) (x y z : Int64) : Prop := pu_c3 x y z ∧ (1 ≤ s → 4096 ≤ z.toInt) ∧ ∀ t : Nat, 1 ≤ t → t < s → -(560 * ((s : Int) - t)) ≤ pu_sideI fo.toInt w.toInt h.toInt t x.toInt y.toInt z.toInt
theorem pu_sideI_lin {fo w h : Int} (t : Nat) (ht : 1 ≤ t) : (∃ al be : Int, (al = fo ∨ al = -fo) ∧ (be = w ∨ be = h) ∧ ∀ x y z, pu_sideI fo w h t x y z = al * x + be * z) ∨ (∃ al be : Int, (al = fo ∨ al = -fo) ∧ (be = w ∨ be = h) ∧ ∀ x y z, pu_sideI fo w h t x y z = al * y + be * z) := by
  match t, ht with
  | 1, _ => exact Or.inl ⟨fo, w, Or.inl rfl, Or.inl rfl, fun x y z => rfl⟩
  | 2, _ => exact Or.inl ⟨-fo, w, Or.inr rfl, Or.inl rfl, fun x y z => by show w * z - fo * x = _; rw [Int.neg_mul]; omega⟩
  | 3, _ => exact Or.inr ⟨fo, h, Or.inl rfl, Or.inr rfl, fun x y z => rfl⟩
  | n + 4, _ => exact Or.inr ⟨-fo, h, Or.inr rfl, Or.inr rfl, fun x y z => by show h * z - fo * y = _; rw [Int.neg_mul]; omega⟩
theorem pu_inv_step {fo w h : Int32} (hf : pu_fit fo w h) {s n : Nat} {R N0 : Nat → Int64} (hR : ∀ c, c < n → pu_inv fo w h s (R (6 * c)) (R (6 * c + 1)) (R (6 * c + 2))) :
    ∀ c, c < (pu_cs fo w h s n R N0 n).1 → pu_inv fo w h (s + 1) ((pu_cs fo w h s n R N0 n).2 (6 * c)) ((pu_cs fo w h s n R N0 n).2 (6 * c + 1)) ((pu_cs fo w h s n R N0 n).2 (6 * c + 2)) := by
  refine pu_cs_all (pu_inv fo w h (s + 1)) ?_ ?_ n (Nat.le_refl n)
  · intro c hc hs
    obtain ⟨h3, hz, hI⟩ := hR c hc
    obtain ⟨e, -⟩ := pu_side_toInt hf s h3
    rw [Jvm.Kit.i64_nonneg, e] at hs
    refine ⟨h3, fun _ => ?_, fun t t1 t2 => ?_⟩
    · match s, hs, hz with
      | 0, hs, _ => have q : 0 ≤ (R (6 * c + 2)).toInt - 4096 := hs; omega
      | s + 1, _, hz => exact hz (by omega)
    · rcases Nat.lt_or_ge t s with g | g
      · have := hI t t1 g; omega
      · have e2 : t = s := by omega
        subst e2
        omega
  · intro p q hp hq h1 h2
    obtain ⟨p3, pz, pI⟩ := hR p hp
    obtain ⟨q3, qz, qI⟩ := hR q hq
    obtain ⟨ea, ba⟩ := pu_side_toInt hf s p3
    obtain ⟨eb, bb⟩ := pu_side_toInt hf s q3
    obtain ⟨x1, x2⟩ := pu_btw_toInt p3.1 q3.1 ba bb h1 h2
    obtain ⟨y1, y2⟩ := pu_btw_toInt p3.2.1 q3.2.1 ba bb h1 h2
    obtain ⟨z1, z2⟩ := pu_btw_toInt p3.2.2 q3.2.2 ba bb h1 h2
    obtain ⟨a0, b0, -⟩ := pu_btw_d ba bb h1 h2
    rw [ea] at x1 y1 z1 a0
    rw [eb] at x1 y1 z1 b0
    refine ⟨⟨x2, y2, z2⟩, fun _ => ?_, fun t t1 t2 => ?_⟩
    · show 4096 ≤ (pu_btw _ _ _ _).toInt
      rw [z1]
      rcases Nat.eq_zero_or_pos s with e0 | e0
      · subst e0
        have a1 : 0 ≤ (R (6 * p + 2)).toInt - 4096 := a0
        have b1 : (R (6 * q + 2)).toInt - 4096 < 0 := b0
        show 4096 ≤ (R (6 * p + 2)).toInt + ((R (6 * q + 2)).toInt - (R (6 * p + 2)).toInt) * ((R (6 * p + 2)).toInt - 4096) / (((R (6 * p + 2)).toInt - 4096) - ((R (6 * q + 2)).toInt - 4096))
        generalize (R (6 * p + 2)).toInt = P at a1 ⊢
        generalize (R (6 * q + 2)).toInt = K at b1 ⊢
        have e9 : (K - P) * (P - 4096) = (-(P - 4096)) * ((P - 4096) - (K - 4096)) := by grind
        rw [e9, Int.mul_ediv_cancel _ (by omega)]
        omega
      · exact pu_midLow a0 (by omega) (by omega) (pz e0) (qz e0)
    · show _ ≤ pu_sideI _ _ _ t (pu_btw (R (6 * p)) (R (6 * q)) _ _).toInt (pu_btw _ _ _ _).toInt (pu_btw _ _ _ _).toInt
      rw [x1, y1, z1]
      obtain ⟨f1, w1, h1'⟩ := hf
      rcases Nat.lt_or_ge t s with g | g
      · have gp := pI t t1 g
        have gq := qI t t1 g
        rcases pu_sideI_lin (fo := fo.toInt) (w := w.toInt) (h := h.toInt) t t1 with ⟨al, be, hal, hbe, hL⟩ | ⟨al, be, hal, hbe, hL⟩
        · rw [hL] at gp gq ⊢
          refine Int.le_trans ?_ (pu_lin (e := 560 * ((s : Int) - t)) a0 ?_ ?_ ?_ ?_ gp gq) <;> omega
        · rw [hL] at gp gq ⊢
          refine Int.le_trans ?_ (pu_lin (e := 560 * ((s : Int) - t)) a0 ?_ ?_ ?_ ?_ gp gq) <;> omega
      · have e2 : t = s := by omega
        subst e2
        rcases pu_sideI_lin (fo := fo.toInt) (w := w.toInt) (h := h.toInt) t t1 with ⟨al, be, hal, hbe, hL⟩ | ⟨al, be, hal, hbe, hL⟩
        · simp only [hL] at a0 b0 ⊢
          refine Int.le_trans ?_ (pu_linS (al := al) (be := be) a0 b0 ?_ ?_ rfl rfl) <;> omega
        · simp only [hL] at a0 b0 ⊢
          refine Int.le_trans ?_ (pu_linS (al := al) (be := be) a0 b0 ?_ ?_ rfl rfl) <;> omega
/-- the ring after the sides 0 .. s - 1 -/
def pu_ring (fo w h : Int32) (G : Nat → Int64) : Nat → Nat × (Nat → Int64)
  | 0 => (3, G)
  | s + 1 => pu_cs fo w h s (pu_ring fo w h G s).1 (pu_ring fo w h G s).2 (fun _ => 0) (pu_ring fo w h G s).1
def pu_given (G : Nat → Int64) : Prop := ∀ c, c < 3 → pu_c3 (G (6 * c)) (G (6 * c + 1)) (G (6 * c + 2))
theorem pu_ring_inv {fo w h : Int32} (hf : pu_fit fo w h) {G : Nat → Int64} (hG : pu_given G) : ∀ s, ∀ c, c < (pu_ring fo w h G s).1 → pu_inv fo w h s ((pu_ring fo w h G s).2 (6 * c)) ((pu_ring fo w h G s).2 (6 * c + 1)) ((pu_ring fo w h G s).2 (6 * c + 2)) := by
  intro s
  induction s with
  | zero => exact fun c hc => ⟨hG c hc, fun q => absurd q (by omega), fun t t1 t2 => absurd t2 (by omega)⟩
  | succ s ih => exact pu_inv_step hf ih
theorem pu_ring_least {fo w h : Int32} {G : Nat → Int64} : ∀ s, (pu_ring fo w h G s).1 = 0 ∨ 3 ≤ (pu_ring fo w h G s).1 := by
  intro s
  induction s with
  | zero => exact Or.inr (Nat.le_refl 3)
  | succ s ih => exact pu_cs_least ih
theorem pu_ring_most (fo w h : Int32) (G : Nat → Int64) : (pu_ring fo w h G 0).1 ≤ 3 ∧ (pu_ring fo w h G 1).1 ≤ 4 ∧ (pu_ring fo w h G 2).1 ≤ 6 ∧ (pu_ring fo w h G 3).1 ≤ 9 ∧ (pu_ring fo w h G 4).1 ≤ 13 ∧ (pu_ring fo w h G 5).1 ≤ 19 := by
  have st : ∀ s, 2 * (pu_ring fo w h G (s + 1)).1 ≤ 3 * (pu_ring fo w h G s).1 := fun s => pu_cs_most
  have h0 : (pu_ring fo w h G 0).1 = 3 := rfl
  have h1 : 2 * (pu_ring fo w h G 1).1 ≤ 3 * (pu_ring fo w h G 0).1 := st 0
  have h2 : 2 * (pu_ring fo w h G 2).1 ≤ 3 * (pu_ring fo w h G 1).1 := st 1
  have h3 : 2 * (pu_ring fo w h G 3).1 ≤ 3 * (pu_ring fo w h G 2).1 := st 2
  have h4 : 2 * (pu_ring fo w h G 4).1 ≤ 3 * (pu_ring fo w h G 3).1 := st 3
  have h5 : 2 * (pu_ring fo w h G 5).1 ≤ 3 * (pu_ring fo w h G 4).1 := st 4
  omega
theorem pu_ring_le {fo w h : Int32} {G : Nat → Int64} {s : Nat} (hs : s < 5) : (pu_ring fo w h G s).1 ≤ 13 ∧ (pu_ring fo w h G (s + 1)).1 ≤ 19 := by
  have q := pu_ring_most fo w h G
  match s, hs with
  | 0, _ => exact ⟨by omega, Nat.le_trans q.2.1 (by decide)⟩
  | 1, _ => exact ⟨by omega, Nat.le_trans q.2.2.1 (by decide)⟩
  | 2, _ => exact ⟨by omega, Nat.le_trans q.2.2.2.1 (by decide)⟩
  | 3, _ => exact ⟨by omega, Nat.le_trans q.2.2.2.2.1 (by decide)⟩
  | 4, _ => exact ⟨by omega, q.2.2.2.2.2⟩
end
section
/-! On the picture, and pieces: pure. -/
def pu_lay (fo w h : Int32) (R : Nat → Int64) (c k : Nat) : Int64 := match k with
  | 0 => pu_div (16 * fo.toInt64 * R (6 * c)) (R (6 * c + 2)) + 8 * w.toInt64
  | 1 => pu_div (16 * fo.toInt64 * R (6 * c + 1)) (R (6 * c + 2)) + 8 * h.toInt64
  | 2 => pu_div 4294967296 (R (6 * c + 2))
  | k => R (6 * c + k)
def pu_pic (fo w h : Int32) (R : Nat → Int64) : Nat → Int64 := fun j => pu_lay fo w h R (j / 6) (j % 6)
theorem pu_pic_at {fo w h : Int32} {R : Nat → Int64} (c : Nat) {k : Nat} (hk : k < 6) : pu_pic fo w h R (6 * c + k) = pu_lay fo w h R c k := by
  unfold pu_pic
  rw [show (6 * c + k) / 6 = c by omega, show (6 * c + k) % 6 = k by omega]
theorem pu_16 : (16 : Int64).toInt = 16 := by decide
theorem pu_8 : (8 : Int64).toInt = 8 := by decide
theorem pu_2p32 : (4294967296 : Int64).toInt = 4294967296 := by decide
theorem pu_xy {F Wz z : Int} (hz : 4096 ≤ z) (h1 : -2240 ≤ F + Wz) (h2 : -2240 ≤ Wz - F) (h3 : Wz ≤ 48 * z) : -784 ≤ 16 * F / z ∧ 16 * F / z ≤ 784 :=
  ⟨Int.le_ediv_of_mul_le (by omega) (by omega), Int.ediv_le_of_le_mul (by omega) (by omega)⟩
/-- a number of the picture that one coordinate gives -/
theorem pu_coord {fo w : Int32} {x z : Int64} (hfo : 8 ≤ fo.toInt ∧ fo.toInt ≤ 512) (hw : 8 ≤ w.toInt ∧ w.toInt ≤ 48) (hx : pu_in x 16777216) (hz : pu_in z 16777216) (h4 : 4096 ≤ z.toInt) (h1 : -2240 ≤ fo.toInt * x.toInt + w.toInt * z.toInt) (h2 : -2240 ≤ w.toInt * z.toInt - fo.toInt * x.toInt) :
    pu_in (pu_div (16 * fo.toInt64 * x) z + 8 * w.toInt64) 1200 := by
  have f1 : pu_in fo.toInt64 512 := pu_of32 (by omega)
  have w1 : pu_in w.toInt64 48 := pu_of32 (by omega)
  obtain ⟨e1, b1⟩ := pu_mul64 (x := 16) (y := fo.toInt64) (A := 16) (B := 512) (by unfold pu_in; rw [pu_16]; omega) f1 (by decide)
  obtain ⟨e2, b2⟩ := pu_mul64 b1 hx (by decide)
  obtain ⟨e3, b3⟩ := pu_mul64 (x := 8) (y := w.toInt64) (A := 8) (B := 48) (by unfold pu_in; rw [pu_8]; omega) w1 (by decide)
  have e4 : (pu_div (16 * fo.toInt64 * x) z).toInt = 16 * (fo.toInt * x.toInt) / z.toInt := by
    rw [pu_div_toInt (by omega), e2, e1, pu_16, Jvm.Kit.i64_of_i32, Int.mul_assoc]
  have hWz : w.toInt * z.toInt ≤ 48 * z.toInt := Int.mul_le_mul_of_nonneg_right hw.2 (by omega)
  obtain ⟨c1, c2⟩ := pu_xy h4 h1 h2 hWz
  have b4 : pu_in (pu_div (16 * fo.toInt64 * x) z) 784 := by unfold pu_in; rw [e4]; exact ⟨c1, c2⟩
  obtain ⟨e5, b5⟩ := pu_add64 b4 b3 (by decide)
  exact ⟨by have := b5.1; omega, by have := b5.2; omega⟩
theorem pu_near {z : Int64} (hz : pu_in z 16777216) (h4 : 4096 ≤ z.toInt) : 1 ≤ (pu_div 4294967296 z).toInt ∧ (pu_div 4294967296 z).toInt ≤ 1048576 := by
  have h2 := hz.2
  rw [pu_div_toInt (by omega), pu_2p32]
  exact ⟨Int.le_ediv_of_mul_le (by omega) (by omega), Int.ediv_le_of_le_mul (by omega) (by omega)⟩
/-- a corner on the picture: its bounds -/
def pu_pok (P : Nat → Int64) (c : Nat) : Prop := pu_in (P (6 * c)) 1200 ∧ pu_in (P (6 * c + 1)) 1200 ∧ 1 ≤ (P (6 * c + 2)).toInt ∧ (P (6 * c + 2)).toInt ≤ 1048576
theorem pu_pic_ok {fo w h : Int32} (hf : pu_fit fo w h) {R : Nat → Int64} {c : Nat} (hc : pu_inv fo w h 5 (R (6 * c)) (R (6 * c + 1)) (R (6 * c + 2))) : pu_pok (pu_pic fo w h R) c := by
  obtain ⟨⟨hx, hy, hz⟩, h4, hI⟩ := hc
  have h4 := h4 (by decide)
  obtain ⟨f1, w1, h1⟩ := hf
  have i1 : -(560 * (((5 : Nat) : Int) - ((1 : Nat) : Int))) ≤ fo.toInt * (R (6 * c)).toInt + w.toInt * (R (6 * c + 2)).toInt := hI 1 (by decide) (by decide)
  have i2 : -(560 * (((5 : Nat) : Int) - ((2 : Nat) : Int))) ≤ w.toInt * (R (6 * c + 2)).toInt - fo.toInt * (R (6 * c)).toInt := hI 2 (by decide) (by decide)
  have i3 : -(560 * (((5 : Nat) : Int) - ((3 : Nat) : Int))) ≤ fo.toInt * (R (6 * c + 1)).toInt + h.toInt * (R (6 * c + 2)).toInt := hI 3 (by decide) (by decide)
  have i4 : -(560 * (((5 : Nat) : Int) - ((4 : Nat) : Int))) ≤ h.toInt * (R (6 * c + 2)).toInt - fo.toInt * (R (6 * c + 1)).toInt := hI 4 (by decide) (by decide)
  refine ⟨?_, ?_, ?_⟩
  · rw [show 6 * c = 6 * c + 0 from rfl, pu_pic_at c (k := 0) (by decide)]
    exact pu_coord f1 w1 hx hz h4 (by omega) (by omega)
  · rw [pu_pic_at c (k := 1) (by decide)]
    exact pu_coord f1 h1 hy hz h4 (by omega) (by omega)
  · rw [pu_pic_at c (k := 2) (by decide)]
    exact pu_near hz h4
/-- AREA of the piece with corners 0, a, b -/
def pu_ar (P : Nat → Int64) (a b : Nat) : Int64 := (P (6 * a) - P 0) * (P (6 * b + 1) - P 1) - (P (6 * b) - P 0) * (P (6 * a + 1) - P 1)
theorem pu_ar_toInt {P : Nat → Int64} {a b : Nat} (h0 : pu_pok P 0) (ha : pu_pok P a) (hb : pu_pok P b) :
    (pu_ar P a b).toInt = ((P (6 * a)).toInt - (P 0).toInt) * ((P (6 * b + 1)).toInt - (P 1).toInt) - ((P (6 * b)).toInt - (P 0).toInt) * ((P (6 * a + 1)).toInt - (P 1).toInt) ∧ pu_in (pu_ar P a b) 11520000 := by
  obtain ⟨x0, y0, -⟩ := h0
  obtain ⟨xa, ya, -⟩ := ha
  obtain ⟨xb, yb, -⟩ := hb
  obtain ⟨e1, b1⟩ := pu_sub64 xa x0 (by decide)
  obtain ⟨e2, b2⟩ := pu_sub64 yb y0 (by decide)
  obtain ⟨e3, b3⟩ := pu_sub64 xb x0 (by decide)
  obtain ⟨e4, b4⟩ := pu_sub64 ya y0 (by decide)
  obtain ⟨e5, b5⟩ := pu_mul64 b1 b2 (by decide)
  obtain ⟨e6, b6⟩ := pu_mul64 b3 b4 (by decide)
  obtain ⟨e7, b7⟩ := pu_sub64 b5 b6 (by decide)
  refine ⟨?_, b7⟩
  show (_ - _ : Int64).toInt = _
  rw [e7, e5, e6, e1, e2, e3, e4]
theorem pu_ar_swap (P : Nat → Int64) (a b : Nat) : pu_ar P b a = -pu_ar P a b := by
  unfold pu_ar
  rw [Int64.neg_sub]
/-- the pieces of the corners 0, k, k + 1 for k = 1 .. j: how many, their second and third corners -/
def pu_pcs (both : Bool) (P : Nat → Int64) : Nat → Nat × (Nat → Nat) × (Nat → Nat)
  | 0 => (0, fun _ => 0, fun _ => 0)
  | j + 1 =>
    if 0 < pu_ar P (j + 1) (j + 2) then ((pu_pcs both P j).1 + 1, va_up (pu_pcs both P j).2.1 (pu_pcs both P j).1 (j + 1), va_up (pu_pcs both P j).2.2 (pu_pcs both P j).1 (j + 2))
    else if pu_ar P (j + 1) (j + 2) < 0 ∧ both = true then ((pu_pcs both P j).1 + 1, va_up (pu_pcs both P j).2.1 (pu_pcs both P j).1 (j + 2), va_up (pu_pcs both P j).2.2 (pu_pcs both P j).1 (j + 1))
    else pu_pcs both P j
theorem pu_pcs_p {both : Bool} {P : Nat → Int64} {j : Nat} (h : 0 < pu_ar P (j + 1) (j + 2)) : pu_pcs both P (j + 1) = ((pu_pcs both P j).1 + 1, va_up (pu_pcs both P j).2.1 (pu_pcs both P j).1 (j + 1), va_up (pu_pcs both P j).2.2 (pu_pcs both P j).1 (j + 2)) := by
  rw [pu_pcs, if_pos h]
theorem pu_pcs_n {both : Bool} {P : Nat → Int64} {j : Nat} (h : ¬ 0 < pu_ar P (j + 1) (j + 2)) (h2 : pu_ar P (j + 1) (j + 2) < 0) (hb : both = true) : pu_pcs both P (j + 1) = ((pu_pcs both P j).1 + 1, va_up (pu_pcs both P j).2.1 (pu_pcs both P j).1 (j + 2), va_up (pu_pcs both P j).2.2 (pu_pcs both P j).1 (j + 1)) := by
  rw [pu_pcs, if_neg h, if_pos ⟨h2, hb⟩]
theorem pu_pcs_z {both : Bool} {P : Nat → Int64} {j : Nat} (h : ¬ 0 < pu_ar P (j + 1) (j + 2)) (h2 : ¬ (pu_ar P (j + 1) (j + 2) < 0 ∧ both = true)) : pu_pcs both P (j + 1) = pu_pcs both P j := by
  rw [pu_pcs, if_neg h, if_neg h2]
theorem pu_up_s {α : Type} {f : Nat → α} {k : Nat} {v : α} : va_up f k v k = v := by unfold va_up; rw [if_pos rfl]
theorem pu_up_n {α : Type} {f : Nat → α} {k j : Nat} {v : α} (h : j ≠ k) : va_up f k v j = f j := by unfold va_up; rw [if_neg h]
/-- what a state of the cutter shows: how many pieces, their second and third corners, the corners on the picture -/
def pu_vok (cnt pn : Nat) (S T : Nat → Nat) (P : Nat → Int64) : Prop := cnt ≤ 17 ∧ pn ≤ 19 ∧ ∀ i, i < cnt → S i < pn ∧ T i < pn ∧ pu_pok P 0 ∧ pu_pok P (S i) ∧ pu_pok P (T i) ∧ 0 < (pu_ar P (S i) (T i)).toInt
theorem pu_pcs_ok {both : Bool} {P : Nat → Int64} {n : Nat} (hn : n ≤ 19) (hP : ∀ c, c < n → pu_pok P c) : ∀ j, j + 2 ≤ n ∨ j = 0 → (pu_pcs both P j).1 ≤ j ∧ ∀ i, i < (pu_pcs both P j).1 → (pu_pcs both P j).2.1 i < n ∧ (pu_pcs both P j).2.2 i < n ∧ pu_pok P 0 ∧ pu_pok P ((pu_pcs both P j).2.1 i) ∧ pu_pok P ((pu_pcs both P j).2.2 i) ∧ 0 < (pu_ar P ((pu_pcs both P j).2.1 i) ((pu_pcs both P j).2.2 i)).toInt := by
  intro j
  induction j with
  | zero => intro _; exact ⟨Nat.le_refl 0, fun i hi => absurd hi (Nat.not_lt_zero i)⟩
  | succ j ih =>
    intro hj
    obtain ⟨c1, c2⟩ := ih (by omega)
    have p0 := hP 0 (by omega)
    have p1 := hP (j + 1) (by omega)
    have p2 := hP (j + 2) (by omega)
    by_cases h : 0 < pu_ar P (j + 1) (j + 2)
    · rw [pu_pcs_p h]
      refine ⟨by dsimp only; omega, fun i hi => ?_⟩
      dsimp only at hi ⊢
      rcases Nat.lt_or_ge i (pu_pcs both P j).1 with g | g
      · rw [pu_up_n (by omega), pu_up_n (by omega)]
        exact c2 i g
      · rw [show i = (pu_pcs both P j).1 by omega, pu_up_s, pu_up_s]
        rw [Int64.lt_iff_toInt_lt, Int64.toInt_zero] at h
        exact ⟨by omega, by omega, p0, p1, p2, h⟩
    · by_cases h2 : pu_ar P (j + 1) (j + 2) < 0 ∧ both = true
      · rw [pu_pcs_n h h2.1 h2.2]
        refine ⟨by dsimp only; omega, fun i hi => ?_⟩
        dsimp only at hi ⊢
        rcases Nat.lt_or_ge i (pu_pcs both P j).1 with g | g
        · rw [pu_up_n (by omega), pu_up_n (by omega)]
          exact c2 i g
        · rw [show i = (pu_pcs both P j).1 by omega, pu_up_s, pu_up_s]
          refine ⟨by omega, by omega, p0, p2, p1, ?_⟩
          have q := h2.1
          rw [Int64.lt_iff_toInt_lt, Int64.toInt_zero] at q
          have hb := (pu_ar_toInt p0 p1 p2).2
          unfold pu_in at hb
          rw [pu_ar_swap, Jvm.Kit.i64_neg (by omega)]
          omega
      · rw [pu_pcs_z h h2]
        exact ⟨by omega, c2⟩
/-- the whole of cut -/
def pu_cutR (fo w h : Int32) (G : Nat → Int64) : Nat × (Nat → Int64) := pu_ring fo w h G 5
def pu_cutP (fo w h : Int32) (G : Nat → Int64) : Nat → Int64 := pu_pic fo w h (pu_cutR fo w h G).2
def pu_cutF (both : Bool) (fo w h : Int32) (G : Nat → Int64) : Nat × (Nat → Nat) × (Nat → Nat) := pu_pcs both (pu_cutP fo w h G) ((pu_cutR fo w h G).1 - 2)
theorem pu_cut_ok {both : Bool} {fo w h : Int32} (hf : pu_fit fo w h) {G : Nat → Int64} (hG : pu_given G) : pu_vok (pu_cutF both fo w h G).1 (pu_cutR fo w h G).1 (pu_cutF both fo w h G).2.1 (pu_cutF both fo w h G).2.2 (pu_cutP fo w h G) := by
  have hm := (pu_ring_most fo w h G).2.2.2.2.2
  have hn : (pu_cutR fo w h G).1 ≤ 19 := hm
  have hP : ∀ c, c < (pu_cutR fo w h G).1 → pu_pok (pu_cutP fo w h G) c := fun c hc => pu_pic_ok hf (pu_ring_inv hf hG 5 c hc)
  obtain ⟨c1, c2⟩ := pu_pcs_ok (both := both) hn hP ((pu_cutR fo w h G).1 - 2) (by omega)
  exact ⟨Nat.le_trans c1 (by omega), hn, c2⟩
end
section
/-! What the calls tell of the pieces: pure. -/
def qy_cor (S T : Nat → Nat) (i c : Nat) : Nat := match c with
  | 0 => 0
  | 1 => S i
  | _ => T i
def qy_mid (x : Int32) : Int64 := 16 * x.toInt64 + 8
/-- E of the edge from corner a to corner b (places in the ring) -/
def qy_E (P : Nat → Int64) (a b : Nat) (x y : Int32) : Int64 := (P (6 * b) - P (6 * a)) * (qy_mid y - P (6 * a + 1)) - (P (6 * b + 1) - P (6 * a + 1)) * (qy_mid x - P (6 * a))
def qy_own (P : Nat → Int64) (a b : Nat) (x y : Int32) : Prop := 0 < qy_E P a b x y ∨ (qy_E P a b x y = 0 ∧ (P (6 * b + 1) < P (6 * a + 1) ∨ (P (6 * b + 1) = P (6 * a + 1) ∧ P (6 * a) < P (6 * b))))
def qy_pix (w h x y : Int32) : Prop := (¬ x < 0 ∧ x < w) ∧ ¬ y < 0 ∧ y < h
def qy_cv (P : Nat → Int64) (a b : Nat) (x y : Int32) : Prop := qy_own P a b x y ∧ qy_own P b 0 x y ∧ qy_own P 0 a x y
/-- piece i covers pixel x, y -/
def qy_cov (w h : Int32) (cnt : Nat) (S T : Nat → Nat) (P : Nat → Int64) (i x y : Int32) : Prop := ∃ j : Nat, j < cnt ∧ i = nI j ∧ qy_pix w h x y ∧ qy_cv P (S j) (T j) x y
def qy_w0 (P : Nat → Int64) (a b : Nat) (x y : Int32) : Int64 := qy_E P a b x y * P 2
def qy_w1 (P : Nat → Int64) (a b : Nat) (x y : Int32) : Int64 := qy_E P b 0 x y * P (6 * a + 2)
def qy_w2 (P : Nat → Int64) (a b : Nat) (x y : Int32) : Int64 := qy_E P 0 a x y * P (6 * b + 2)
def qy_h (P : Nat → Int64) (a b : Nat) (x y : Int32) : Int64 := qy_w0 P a b x y + qy_w1 P a b x y + qy_w2 P a b x y
theorem qy_mid_in {x w : Int32} (h0 : ¬ x < 0) (h1 : x < w) (hw : w.toInt ≤ 48) : (qy_mid x).toInt = 16 * x.toInt + 8 ∧ pu_in (qy_mid x) 776 := by
  rw [Int32.lt_iff_toInt_lt, Int32.toInt_zero] at h0
  rw [Int32.lt_iff_toInt_lt] at h1
  obtain ⟨e1, b1⟩ := pu_mul64 (x := 16) (y := x.toInt64) (A := 16) (B := 47) (by unfold pu_in; rw [pu_16]; omega) (pu_of32 (by omega)) (by decide)
  have b8 : pu_in (8 : Int64) 8 := by unfold pu_in; rw [pu_8]; omega
  obtain ⟨e2, b2⟩ := pu_add64 b1 b8 (by decide)
  have e3 : (qy_mid x).toInt = 16 * x.toInt + 8 := by
    show (_ + _ : Int64).toInt = _
    rw [e2, e1, pu_16, pu_8, Jvm.Kit.i64_of_i32]
  exact ⟨e3, by unfold pu_in; rw [e3]; omega⟩
theorem qy_E_toInt {P : Nat → Int64} {a b : Nat} {x y : Int32} (ha : pu_pok P a) (hb : pu_pok P b) (hx : pu_in (qy_mid x) 776) (hy : pu_in (qy_mid y) 776) :
    (qy_E P a b x y).toInt = ((P (6 * b)).toInt - (P (6 * a)).toInt) * ((qy_mid y).toInt - (P (6 * a + 1)).toInt) - ((P (6 * b + 1)).toInt - (P (6 * a + 1)).toInt) * ((qy_mid x).toInt - (P (6 * a)).toInt) ∧ pu_in (qy_E P a b x y) 9484800 := by
  obtain ⟨xa, ya, -⟩ := ha
  obtain ⟨xb, yb, -⟩ := hb
  obtain ⟨e1, b1⟩ := pu_sub64 xb xa (by decide)
  obtain ⟨e2, b2⟩ := pu_sub64 hy ya (by decide)
  obtain ⟨e3, b3⟩ := pu_sub64 yb ya (by decide)
  obtain ⟨e4, b4⟩ := pu_sub64 hx xa (by decide)
  obtain ⟨e5, b5⟩ := pu_mul64 b1 b2 (by decide)
  obtain ⟨e6, b6⟩ := pu_mul64 b3 b4 (by decide)
  obtain ⟨e7, b7⟩ := pu_sub64 b5 b6 (by decide)
  refine ⟨?_, b7⟩
  show (_ - _ : Int64).toInt = _
  rw [e7, e5, e6, e1, e2, e3, e4]
theorem qy_own_nn {P : Nat → Int64} {a b : Nat} {x y : Int32} (h : qy_own P a b x y) : 0 ≤ (qy_E P a b x y).toInt := by
  rcases h with h | ⟨h, -⟩
  · rw [Int64.lt_iff_toInt_lt, Int64.toInt_zero] at h; omega
  · rw [h, Int64.toInt_zero]; omega
/-- where a piece covers a pixel, h is above 0 -/
theorem qy_h_pos {w h : Int32} (hw : w.toInt ≤ 48) (hh : h.toInt ≤ 48) {P : Nat → Int64} {a b : Nat} {x y : Int32} (h0 : pu_pok P 0) (ha : pu_pok P a) (hb : pu_pok P b) (hA : 0 < (pu_ar P a b).toInt) (hp : qy_pix w h x y) (hc : qy_cv P a b x y) : 0 < (qy_h P a b x y).toInt := by
  obtain ⟨mx, ix⟩ := qy_mid_in hp.1.1 hp.1.2 hw
  obtain ⟨my, iy⟩ := qy_mid_in hp.2.1 hp.2.2 hh
  obtain ⟨c0, c1, c2⟩ := hc
  have n0 := qy_own_nn c0
  have n1 := qy_own_nn c1
  have n2 := qy_own_nn c2
  obtain ⟨e0, b0⟩ := qy_E_toInt ha hb ix iy
  obtain ⟨e1, b1⟩ := qy_E_toInt hb h0 ix iy
  obtain ⟨e2, b2⟩ := qy_E_toInt h0 ha ix iy
  obtain ⟨eA, -⟩ := pu_ar_toInt h0 ha hb
  have hsum : (qy_E P a b x y).toInt + (qy_E P b 0 x y).toInt + (qy_E P 0 a x y).toInt = (pu_ar P a b).toInt := by
    rw [e0, e1, e2, eA, Nat.mul_zero]
    grind
  have r0 : pu_in (P 2) 1048576 := ⟨by have q : 1 ≤ (P 2).toInt := h0.2.2.1; omega, h0.2.2.2⟩
  have ra : pu_in (P (6 * a + 2)) 1048576 := ⟨by have := ha.2.2.1; omega, ha.2.2.2⟩
  have rb : pu_in (P (6 * b + 2)) 1048576 := ⟨by have := hb.2.2.1; omega, hb.2.2.2⟩
  obtain ⟨w0, v0⟩ := pu_mul64 b0 r0 (by decide)
  obtain ⟨w1, v1⟩ := pu_mul64 b1 ra (by decide)
  obtain ⟨w2, v2⟩ := pu_mul64 b2 rb (by decide)
  obtain ⟨s1, t1⟩ := pu_add64 v0 v1 (by decide)
  obtain ⟨s2, t2⟩ := pu_add64 t1 v2 (by decide)
  unfold qy_h qy_w0 qy_w1 qy_w2
  rw [s2, s1, w0, w1, w2]
  have g0 : 1 ≤ (P 2).toInt := h0.2.2.1
  have g1 := ha.2.2.1
  have g2 := hb.2.2.1
  have k0 := Int.mul_le_mul_of_nonneg_left g0 n0
  have k1 := Int.mul_le_mul_of_nonneg_left g1 n1
  have k2 := Int.mul_le_mul_of_nonneg_left g2 n2
  rw [Int.mul_one] at k0 k1 k2
  omega
/-- covers, as a number -/
noncomputable def qc (wi hi : Int32) (ct : Nat) (S T : Nat → Nat) (P : Nat → Int64) (ix xx yy : Int32) : Int32 := @ite Int32 (qy_cov wi hi ct S T P ix xx yy) (Classical.propDecidable _) 1 0
theorem qc_1 {wi hi : Int32} {ct : Nat} {S T : Nat → Nat} {P : Nat → Int64} {ix xx yy : Int32} (h : qy_cov wi hi ct S T P ix xx yy) : qc wi hi ct S T P ix xx yy = 1 := by unfold qc; rw [if_pos h]
theorem qc_0 {wi hi : Int32} {ct : Nat} {S T : Nat → Nat} {P : Nat → Int64} {ix xx yy : Int32} (h : ¬ qy_cov wi hi ct S T P ix xx yy) : qc wi hi ct S T P ix xx yy = 0 := by unfold qc; rw [if_neg h]
theorem qc_cov {wi hi : Int32} {ct : Nat} {S T : Nat → Nat} {P : Nat → Int64} {ix xx yy : Int32} (h : ¬ qc wi hi ct S T P ix xx yy = 0) : qy_cov wi hi ct S T P ix xx yy := by
  apply Classical.byContradiction
  intro q
  exact h (qc_0 q)
theorem qc_01 {wi hi : Int32} {ct : Nat} {S T : Nat → Nat} {P : Nat → Int64} {ix xx yy : Int32} : qc wi hi ct S T P ix xx yy = 0 ∨ qc wi hi ct S T P ix xx yy = 1 := by
  by_cases h : qy_cov wi hi ct S T P ix xx yy
  · exact Or.inr (qc_1 h)
  · exact Or.inl (qc_0 h)
/-- the first k on from a start, of so many, where f isn't 0 -/
def qs_up (f : Nat → Int32) : Nat → Nat → Int32
  | _, 0 => -1
  | k, n + 1 => if f k = 0 then qs_up f (k + 1) n else nI k
def qs_dn (f : Nat → Int32) : Nat → Int32
  | 0 => -1
  | k + 1 => if f k = 0 then qs_dn f k else nI k
def qs_ct (f : Nat → Int32) : Nat → Int32
  | 0 => 0
  | k + 1 => if f k = 0 then qs_ct f k else qs_ct f k + 1
theorem qs_up_0 {f : Nat → Int32} {k n : Nat} (h : n ≤ k) : qs_up f k (n - k) = -1 := by
  rw [show n - k = 0 by omega]; rfl
theorem qs_up_s {f : Nat → Int32} {k n : Nat} (h : k < n) (c : f k = 0) : qs_up f k (n - k) = qs_up f (k + 1) (n - (k + 1)) := by
  rw [show n - k = (n - (k + 1)) + 1 by omega, qs_up, if_pos c]
theorem qs_up_f {f : Nat → Int32} {k n : Nat} (h : k < n) (c : ¬ f k = 0) : qs_up f k (n - k) = nI k := by
  rw [show n - k = (n - (k + 1)) + 1 by omega, qs_up, if_neg c]
theorem qs_dn_s {f : Nat → Int32} {k : Nat} (c : f k = 0) : qs_dn f (k + 1) = qs_dn f k := by rw [qs_dn, if_pos c]
theorem qs_dn_f {f : Nat → Int32} {k : Nat} (c : ¬ f k = 0) : qs_dn f (k + 1) = nI k := by rw [qs_dn, if_neg c]
theorem qs_ct_0 {f : Nat → Int32} {k : Nat} (c : f k = 0) : qs_ct f (k + 1) = qs_ct f k := by rw [qs_ct, if_pos c]
theorem qs_ct_1 {f : Nat → Int32} {k : Nat} (c : ¬ f k = 0) : qs_ct f (k + 1) = qs_ct f k + 1 := by rw [qs_ct, if_neg c]
theorem qs_m1 {k : Nat} (h : k < 2 ^ 31) (y : Int32) (hy : y = nI k - 1) (c : ¬ y < 0) : ∃ j : Nat, k = j + 1 ∧ y = nI j := by
  cases k with
  | zero => exact absurd (by rw [hy, nI_0]; decide) c
  | succ j => exact ⟨j, rfl, by rw [hy, nI_pred]⟩
theorem qs_m0 {k : Nat} (h : k < 2 ^ 31) (y : Int32) (hy : y = nI k - 1) (c : y < 0) : k = 0 := by
  cases k with
  | zero => rfl
  | succ j => rw [hy, nI_pred] at c; exact absurd c (nI_pos (by omega))
/-- the answers -/
noncomputable def qa_first (wi hi : Int32) (wn ct : Nat) (S T : Nat → Nat) (P : Nat → Int64) (ix yy : Int32) : Int32 := qs_up (fun xx => qc wi hi ct S T P ix (nI xx) yy) 0 (wn - 0)
noncomputable def qa_last (wi hi : Int32) (wn ct : Nat) (S T : Nat → Nat) (P : Nat → Int64) (ix yy : Int32) : Int32 := qs_dn (fun xx => qc wi hi ct S T P ix (nI xx) yy) wn
noncomputable def qa_count (wi hi : Int32) (ct : Nat) (S T : Nat → Nat) (P : Nat → Int64) (xx yy : Int32) (k : Nat) : Int32 := qs_ct (fun ix => qc wi hi ct S T P (nI ix) xx yy) k
noncomputable def qa_near (wi hi : Int32) (ct : Nat) (S T : Nat → Nat) (P : Nat → Int64) (ix xx yy : Int32) : Int32 := if qc wi hi ct S T P ix xx yy = 0 then -1 else (pu_div (qy_h P (S ix.toNatClampNeg) (T ix.toNatClampNeg) xx yy) (pu_ar P (S ix.toNatClampNeg) (T ix.toNatClampNeg))).toInt32
def qy_sum (P : Nat → Int64) (a b : Nat) (xx yy : Int32) (k : Nat) : Int64 := 0 + qy_w0 P a b xx yy * P (3 + k) + qy_w1 P a b xx yy * P (6 * a + 3 + k) + qy_w2 P a b xx yy * P (6 * b + 3 + k)
noncomputable def qa_number (wi hi : Int32) (ct : Nat) (S T : Nat → Nat) (P : Nat → Int64) (ix xx yy wh : Int32) : Int32 := if qc wi hi ct S T P ix xx yy = 0 then 0 else if wh < 0 then 0 else if 3 ≤ wh then 0 else (pu_div (qy_sum P (S ix.toNatClampNeg) (T ix.toNatClampNeg) xx yy wh.toNatClampNeg) (qy_h P (S ix.toNatClampNeg) (T ix.toNatClampNeg) xx yy)).toInt32
def qa_piece (ct : Nat) (S T : Nat → Nat) (P : Nat → Int64) (ix co wh : Int32) : Int32 := if ix < 0 ∨ nI ct ≤ ix then 0 else if co < 0 ∨ 3 ≤ co then 0 else if wh < 0 ∨ 6 ≤ wh then 0 else (P (6 * qy_cor S T ix.toNatClampNeg co.toNatClampNeg + wh.toNatClampNeg)).toInt32
def qa_area (ct : Nat) (S T : Nat → Nat) (P : Nat → Int64) (ix : Int32) : Int32 := if ix < 0 ∨ nI ct ≤ ix then -1 else (pu_ar P (S ix.toNatClampNeg) (T ix.toNatClampNeg)).toInt32
noncomputable def qa_covered (wi hi : Int32) (ct : Nat) (S T : Nat → Nat) (P : Nat → Int64) (xx yy : Int32) : Int32 := @ite Int32 (qy_pix wi hi xx yy) (Classical.propDecidable _) (qa_count wi hi ct S T P xx yy ct) (-1)
theorem qa_cov_1 {wi hi : Int32} {ct : Nat} {S T : Nat → Nat} {P : Nat → Int64} {xx yy : Int32} (h : qy_pix wi hi xx yy) : qa_covered wi hi ct S T P xx yy = qa_count wi hi ct S T P xx yy ct := by unfold qa_covered; rw [if_pos h]
theorem qa_cov_0 {wi hi : Int32} {ct : Nat} {S T : Nat → Nat} {P : Nat → Int64} {xx yy : Int32} (h : ¬ qy_pix wi hi xx yy) : qa_covered wi hi ct S T P xx yy = -1 := by unfold qa_covered; rw [if_neg h]
end
section
/-! The arrays that cut fills, as they are, and what of them is the value's. -/
def pu_pics (fo w h : Int32) (R N0 : Nat → Int64) : Nat → (Nat → Int64)
  | 0 => N0
  | c + 1 => pu_put (pu_pics fo w h R N0 c) c (fun k => pu_lay fo w h R c k)
theorem pu_pics_at {fo w h : Int32} {R N0 : Nat → Int64} : ∀ n j, j < 6 * n → pu_pics fo w h R N0 n j = pu_pic fo w h R j := by
  intro n
  induction n with
  | zero => intro j hj; exact absurd hj (Nat.not_lt_zero j)
  | succ n ih =>
    intro j hj
    show pu_put _ n _ j = _
    unfold pu_put
    by_cases q : j / 6 = n
    · rw [if_pos q]; unfold pu_pic; rw [q]
    · rw [if_neg q]; exact ih j (by omega)
theorem pu_pic_congr {fo w h : Int32} {R R2 : Nat → Int64} {n j : Nat} (hR : ∀ j, j < 6 * n → R j = R2 j) (hj : j < 6 * n) : pu_pic fo w h R j = pu_pic fo w h R2 j := by
  unfold pu_pic
  have hc : j / 6 < n := by omega
  have hk : j % 6 < 6 := Nat.mod_lt _ (by decide)
  generalize j / 6 = c at hc ⊢
  generalize j % 6 = k at hk ⊢
  unfold pu_lay
  match k, hk with
  | 0, _ => show pu_div (16 * fo.toInt64 * R (6 * c)) (R (6 * c + 2)) + 8 * w.toInt64 = pu_div (16 * fo.toInt64 * R2 (6 * c)) (R2 (6 * c + 2)) + 8 * w.toInt64; rw [hR (6 * c) (by omega), hR (6 * c + 2) (by omega)]
  | 1, _ => show pu_div (16 * fo.toInt64 * R (6 * c + 1)) (R (6 * c + 2)) + 8 * h.toInt64 = pu_div (16 * fo.toInt64 * R2 (6 * c + 1)) (R2 (6 * c + 2)) + 8 * h.toInt64; rw [hR (6 * c + 1) (by omega), hR (6 * c + 2) (by omega)]
  | 2, _ => show pu_div 4294967296 (R (6 * c + 2)) = pu_div 4294967296 (R2 (6 * c + 2)); rw [hR (6 * c + 2) (by omega)]
  | 3, _ => exact hR (6 * c + 3) (by omega)
  | 4, _ => exact hR (6 * c + 4) (by omega)
  | 5, _ => exact hR (6 * c + 5) (by omega)
theorem pu_lay_put {N v v2 : Nat → Int64} {m : Nat} {a b c : Int64} (h0 : a = v2 0) (h1 : b = v2 1) (h2 : c = v2 2) (h3 : v 3 = v2 3) (h4 : v 4 = v2 4) (h5 : v 5 = v2 5) : vp_updL (vp_updL (vp_updL (pu_put N m v) (6 * m + 0) a) (6 * m + 1) b) (6 * m + 2) c = pu_put N m v2 := by
  funext j
  unfold vp_updL pu_put
  by_cases h : j / 6 = m
  · have hj : j = 6 * m + j % 6 := by omega
    have hl : j % 6 < 6 := Nat.mod_lt _ (by decide)
    rw [if_pos h, if_pos h]
    generalize j % 6 = k at hj hl ⊢
    subst hj
    match k, hl with
    | 0, _ => rw [if_neg (by omega), if_neg (by omega), if_pos rfl, h0]
    | 1, _ => rw [if_neg (by omega), if_pos rfl, h1]
    | 2, _ => rw [if_pos rfl, h2]
    | 3, _ => rw [if_neg (by omega), if_neg (by omega), if_neg (by omega), h3]
    | 4, _ => rw [if_neg (by omega), if_neg (by omega), if_neg (by omega), h4]
    | 5, _ => rw [if_neg (by omega), if_neg (by omega), if_neg (by omega), h5]
  · rw [if_neg h, if_neg h, if_neg (by omega), if_neg (by omega), if_neg (by omega)]
theorem pu_ar_congr {P P2 : Nat → Int64} {n a b : Nat} (hP : ∀ j, j < 6 * n → P j = P2 j) (ha : a < n) (hb : b < n) : pu_ar P a b = pu_ar P2 a b := by
  unfold pu_ar
  rw [hP (6 * a) (by omega), hP (6 * a + 1) (by omega), hP (6 * b) (by omega), hP (6 * b + 1) (by omega), hP 0 (by omega), hP 1 (by omega)]
/-- the class's fan after the corners 0, k, k + 1 for k = 1 .. j -/
def pu_fan (bo : Int32) (P : Nat → Int64) (S0 T0 A0 : Nat → Int32) : Nat → Nat × (Nat → Int32) × (Nat → Int32) × (Nat → Int32)
  | 0 => (0, S0, T0, A0)
  | j + 1 =>
    if 0 < pu_ar P (j + 1) (j + 2) then ((pu_fan bo P S0 T0 A0 j).1 + 1, upd (pu_fan bo P S0 T0 A0 j).2.1 (pu_fan bo P S0 T0 A0 j).1 (nI (j + 1)), upd (pu_fan bo P S0 T0 A0 j).2.2.1 (pu_fan bo P S0 T0 A0 j).1 (nI (j + 2)), upd (pu_fan bo P S0 T0 A0 j).2.2.2 (pu_fan bo P S0 T0 A0 j).1 (pu_ar P (j + 1) (j + 2)).toInt32)
    else if pu_ar P (j + 1) (j + 2) < 0 ∧ ¬ bo = 0 then ((pu_fan bo P S0 T0 A0 j).1 + 1, upd (pu_fan bo P S0 T0 A0 j).2.1 (pu_fan bo P S0 T0 A0 j).1 (nI (j + 2)), upd (pu_fan bo P S0 T0 A0 j).2.2.1 (pu_fan bo P S0 T0 A0 j).1 (nI (j + 1)), upd (pu_fan bo P S0 T0 A0 j).2.2.2 (pu_fan bo P S0 T0 A0 j).1 (-pu_ar P (j + 1) (j + 2)).toInt32)
    else pu_fan bo P S0 T0 A0 j
section FAN
variable {bo : Int32} {P : Nat → Int64} {S0 T0 A0 : Nat → Int32} {j : Nat}
theorem pu_fan_p (h : 0 < pu_ar P (j + 1) (j + 2)) : pu_fan bo P S0 T0 A0 (j + 1) = ((pu_fan bo P S0 T0 A0 j).1 + 1, upd (pu_fan bo P S0 T0 A0 j).2.1 (pu_fan bo P S0 T0 A0 j).1 (nI (j + 1)), upd (pu_fan bo P S0 T0 A0 j).2.2.1 (pu_fan bo P S0 T0 A0 j).1 (nI (j + 2)), upd (pu_fan bo P S0 T0 A0 j).2.2.2 (pu_fan bo P S0 T0 A0 j).1 (pu_ar P (j + 1) (j + 2)).toInt32) := by
  rw [pu_fan, if_pos h]
theorem pu_fan_n (h : ¬ 0 < pu_ar P (j + 1) (j + 2)) (h2 : pu_ar P (j + 1) (j + 2) < 0) (hb : ¬ bo = 0) : pu_fan bo P S0 T0 A0 (j + 1) = ((pu_fan bo P S0 T0 A0 j).1 + 1, upd (pu_fan bo P S0 T0 A0 j).2.1 (pu_fan bo P S0 T0 A0 j).1 (nI (j + 2)), upd (pu_fan bo P S0 T0 A0 j).2.2.1 (pu_fan bo P S0 T0 A0 j).1 (nI (j + 1)), upd (pu_fan bo P S0 T0 A0 j).2.2.2 (pu_fan bo P S0 T0 A0 j).1 (-pu_ar P (j + 1) (j + 2)).toInt32) := by
  rw [pu_fan, if_neg h, if_pos ⟨h2, hb⟩]
theorem pu_fan_z (h : ¬ 0 < pu_ar P (j + 1) (j + 2)) (h2 : ¬ (pu_ar P (j + 1) (j + 2) < 0 ∧ ¬ bo = 0)) : pu_fan bo P S0 T0 A0 (j + 1) = pu_fan bo P S0 T0 A0 j := by
  rw [pu_fan, if_neg h, if_neg h2]
theorem pu_fan_le : ∀ j, (pu_fan bo P S0 T0 A0 j).1 ≤ j := by
  intro j
  induction j with
  | zero => exact Nat.le_refl 0
  | succ j ih =>
    by_cases h : 0 < pu_ar P (j + 1) (j + 2)
    · rw [pu_fan_p h]; dsimp only; omega
    · by_cases h2 : pu_ar P (j + 1) (j + 2) < 0 ∧ ¬ bo = 0
      · rw [pu_fan_n h h2.1 h2.2]; dsimp only; omega
      · rw [pu_fan_z h h2]; omega
theorem pu_up32_s {f : Nat → Int32} {k : Nat} {x : Int32} : upd f k x k = x := pk_us
theorem pu_fan_pcs {P2 : Nat → Int64} {n : Nat} (hP : ∀ j, j < 6 * n → P j = P2 j) : ∀ j, j + 2 ≤ n ∨ j = 0 → (pu_fan bo P S0 T0 A0 j).1 = (pu_pcs (decide (¬ bo = 0)) P2 j).1 ∧ ∀ i, i < (pu_pcs (decide (¬ bo = 0)) P2 j).1 → (pu_fan bo P S0 T0 A0 j).2.1 i = nI ((pu_pcs (decide (¬ bo = 0)) P2 j).2.1 i) ∧ (pu_fan bo P S0 T0 A0 j).2.2.1 i = nI ((pu_pcs (decide (¬ bo = 0)) P2 j).2.2 i) ∧ (pu_fan bo P S0 T0 A0 j).2.2.2 i = (pu_ar P2 ((pu_pcs (decide (¬ bo = 0)) P2 j).2.1 i) ((pu_pcs (decide (¬ bo = 0)) P2 j).2.2 i)).toInt32 := by
  intro j
  induction j with
  | zero => intro _; exact ⟨rfl, fun i hi => absurd hi (Nat.not_lt_zero i)⟩
  | succ j ih =>
    intro hj
    obtain ⟨i1, i2⟩ := ih (by omega)
    have ea : pu_ar P (j + 1) (j + 2) = pu_ar P2 (j + 1) (j + 2) := pu_ar_congr hP (by omega) (by omega)
    by_cases h : 0 < pu_ar P2 (j + 1) (j + 2)
    · rw [pu_pcs_p h, pu_fan_p (by rw [ea]; exact h)]
      dsimp only
      refine ⟨by rw [i1], fun i hi => ?_⟩
      rw [i1, ea]
      rcases Nat.lt_or_ge i (pu_pcs (decide (¬ bo = 0)) P2 j).1 with g | g
      · rw [pk_un (by omega), pk_un (by omega), pk_un (by omega), pu_up_n (by omega), pu_up_n (by omega)]
        exact i2 i g
      · rw [show i = (pu_pcs (decide (¬ bo = 0)) P2 j).1 by omega, pk_us, pk_us, pk_us, pu_up_s, pu_up_s]
        exact ⟨rfl, rfl, rfl⟩
    · by_cases h2 : pu_ar P2 (j + 1) (j + 2) < 0 ∧ ¬ bo = 0
      · rw [pu_pcs_n h h2.1 (decide_eq_true h2.2), pu_fan_n (by rw [ea]; exact h) (by rw [ea]; exact h2.1) h2.2]
        dsimp only
        refine ⟨by rw [i1], fun i hi => ?_⟩
        rw [i1, ea]
        rcases Nat.lt_or_ge i (pu_pcs (decide (¬ bo = 0)) P2 j).1 with g | g
        · rw [pk_un (by omega), pk_un (by omega), pk_un (by omega), pu_up_n (by omega), pu_up_n (by omega)]
          exact i2 i g
        · rw [show i = (pu_pcs (decide (¬ bo = 0)) P2 j).1 by omega, pk_us, pk_us, pk_us, pu_up_s, pu_up_s, pu_ar_swap P2 (j + 1) (j + 2)]
          exact ⟨rfl, rfl, rfl⟩
      · rw [pu_pcs_z h (fun q => h2 ⟨q.1, of_decide_eq_true q.2⟩), pu_fan_z (by rw [ea]; exact h) (by rw [ea]; exact h2)]
        exact ⟨i1, i2⟩
end FAN
/-- one more side -/
theorem pu_ring_next {fo w h : Int32} {G R N0 : Nat → Int64} {s n : Nat} (hn : n = (pu_ring fo w h G s).1) (hR : ∀ j, j < 6 * n → R j = (pu_ring fo w h G s).2 j) : (pu_cs fo w h s n R N0 n).1 = (pu_ring fo w h G (s + 1)).1 ∧ ∀ j, j < 6 * (pu_cs fo w h s n R N0 n).1 → (pu_cs fo w h s n R N0 n).2 j = (pu_ring fo w h G (s + 1)).2 j := by
  have q := pu_cs_congr (fo := fo) (w := w) (h := h) (sd := s) (N0 := N0) (N2 := fun _ => 0) hR n (Nat.le_refl n)
  rw [hn] at q ⊢
  exact q
end
section
def f_Ri_has (rin : Int32) (ix : Int32) : Int32 := if ix < 0 then 0 else (if rin ≤ ix then 0 else (if 19 < rin then 0 else 1))
set_option maxHeartbeats 4000000 in
set_option maxRecDepth 100000 in
theorem c_Ri_has (l : Launch) (dC : Nat → ClassId) (dI : Nat → Nat → Nat) (cJ cI : ClassId) (ri : Nat) (ria : Nat) (rin : Int32) (rif : Nat → Int64) (ix : Int32) : Met l y_Ri_has w_Ri_has ({ frames := 0, cells := 0, slots := 0, locals := 0 } : Room) (rq_ro (dC, dI) cJ cI [.ref ri, .int ix] [(ri, .inr (1, [.ref ria, .int rin])), (ria, .inl (cJ, 114, .inr (.inl rif)))]) (vp_Si (fun r => r = f_Ri_has rin ix)) 0 0 (fun _ => False) := by
  refine Met.ofW (cc := b_Ri_has) (maxL := 2) (ret := (some .boolean)) (by decide) rfl ?_
  intro p e s m args below meth c s₁ B hml hv
  obtain ⟨rfl, hP, hK, hN⟩ := hv
  have hx := B.exec
  have hb := B.bytes
  have hr := B.returns
  have hts := atoms_spec (ws := w_Ri_has) B.pre
  have hown : s.vm.findClass R_Ri = some m.cls := findClass_of_methodNamed B.named
  have hlocks := B.notSynchronized
  have hl := lv_entry ([.ref ri, .int ix]) (n := 2) (Nat.le_of_ble_eq_true rfl)
  rw [lg_entry_eq]
  generalize (lg_sl ([.ref ri, .int ix]) ++ List.replicate (2 - (lg_sl ([.ref ri, .int ix])).length) Slot.unset).toArray = ls at hl ⊢
  have hl : lv_has ls 2 [(0, .ref ri), (1, .int ix)] := hl
  refine lv_iload_n hx hb d_Ri_has_0 rfl (lv_at hl 1 rfl) ?_
  refine lv_if_lt (tgt := 25) hx hb d_Ri_has_1 (by decide) (fun c_1 => ?_) (fun c_1 => ?_)
  · have c_1 : ix < 0 := c_1
    refine lv_iconst (v := 0) hx hb d_Ri_has_25 (by decide) ?_
    exact W.zret (v := 0) hx hb hr (by decide) (fun t ht hW => ⟨_, rfl, by rw [f_Ri_has, if_pos c_1], ht⟩) (fun q h => by cases h) d_Ri_has_26
  · have c_1 : ¬ (ix < 0) := c_1
    refine lv_iload_n hx hb d_Ri_has_4 rfl (lv_at hl 1 rfl) ?_
    refine lv_aload_n hx hb d_Ri_has_5 rfl (lv_at hl 0 rfl) ?_
    refine va_get (D := (dC, dI)) (ci := 1) (v := .int rin) (C := R_Ri) (T := F_Ri) (N := 2) hx hb hts (fun w h => mw (i_Ri w h)) hown hK hP 0 rfl rfl 1 (by decide) (hts _ (mw wd_61)) (fun _ h9 => h9) rfl d_Ri_has_6 ?_
    refine lv_icmp_ge (tgt := 25) hx hb d_Ri_has_9 (by decide) (fun c_2 => ?_) (fun c_2 => ?_)
    · have c_2 : rin ≤ ix := c_2
      refine lv_iconst (v := 0) hx hb d_Ri_has_25 (by decide) ?_
      exact W.zret (v := 0) hx hb hr (by decide) (fun t ht hW => ⟨_, rfl, by rw [f_Ri_has, if_neg c_1, if_pos c_2], ht⟩) (fun q h => by cases h) d_Ri_has_26
    · have c_2 : ¬ (rin ≤ ix) := c_2
      refine lv_aload_n hx hb d_Ri_has_12 rfl (lv_at hl 0 rfl) ?_
      refine va_get (D := (dC, dI)) (ci := 1) (v := .int rin) (C := R_Ri) (T := F_Ri) (N := 2) hx hb hts (fun w h => mw (i_Ri w h)) hown hK hP 0 rfl rfl 1 (by decide) (hts _ (mw wd_61)) (fun _ h9 => h9) rfl d_Ri_has_13 ?_
      refine lv_bipush (v := 19) hx hb d_Ri_has_16 (by decide) ?_
      refine lv_icmp_gt (tgt := 25) hx hb d_Ri_has_18 (by decide) (fun c_3 => ?_) (fun c_3 => ?_)
      · have c_3 : 19 < rin := c_3
        refine lv_iconst (v := 0) hx hb d_Ri_has_25 (by decide) ?_
        exact W.zret (v := 0) hx hb hr (by decide) (fun t ht hW => ⟨_, rfl, by rw [f_Ri_has, if_neg c_1, if_neg c_2, if_pos c_3], ht⟩) (fun q h => by cases h) d_Ri_has_26
      · have c_3 : ¬ (19 < rin) := c_3
        refine lv_iconst (v := 1) hx hb d_Ri_has_21 (by decide) ?_
        refine lv_goto (tgt := 26) hx hb d_Ri_has_22 (by decide) ?_
        exact W.zret (v := 1) hx hb hr (by decide) (fun t ht hW => ⟨_, rfl, by rw [f_Ri_has, if_neg c_1, if_neg c_2, if_neg c_3], ht⟩) (fun q h => by cases h) d_Ri_has_26
end
section
theorem ix_of {x : Int32} {n : Nat} {M : Int32} (hM : M = nI n) (hn : n < 2 ^ 31) (h0 : ¬ x < 0) (h1 : ¬ M ≤ x) : ∃ j : Nat, j < n ∧ x = nI j := by
  obtain ⟨j, hj, rfl⟩ := nI_of h0
  refine ⟨j, ?_, rfl⟩
  rw [hM, nI_leI hn hj] at h1
  omega
theorem ri_has_of {rin ix : Int32} (h : ¬ f_Ri_has rin ix = 0) : ∃ n c : Nat, rin = nI n ∧ n ≤ 19 ∧ c < n ∧ ix = nI c := by
  unfold f_Ri_has at h
  by_cases h0 : ix < 0
  · rw [if_pos h0] at h; exact absurd rfl h
  · rw [if_neg h0] at h
    by_cases h1 : rin ≤ ix
    · rw [if_pos h1] at h; exact absurd rfl h
    · rw [if_neg h1] at h
      by_cases h2 : 19 < rin
      · rw [if_pos h2] at h; exact absurd rfl h
      · obtain ⟨c, hc, rfl⟩ := nI_of h0
        have h3 : ¬ rin < 0 := fun q => h1 (by rw [Int32.le_iff_toInt_le, nI_toInt hc]; rw [Int32.lt_iff_toInt_lt, Int32.toInt_zero] at q; omega)
        obtain ⟨n, hn, rfl⟩ := nI_of h3
        rw [nI_leI hn hc] at h1
        rw [show (19 : Int32) = nI 19 from rfl, nI_ltI (by decide) hn] at h2
        exact ⟨n, c, rfl, by omega, by omega, rfl⟩
theorem ri_in {rin ix wh : Int32} (h : ¬ f_Ri_has rin ix = 0) (h1 : ¬ wh < 0) (h2 : ¬ 6 ≤ wh) : vp_in ((ix * 6) + wh) 114 := by
  obtain ⟨n, c, -, hn, hc, rfl⟩ := ri_has_of h
  obtain ⟨k, hk, rfl⟩ := ix_of (M := 6) (n := 6) rfl (by decide) h1 h2
  rw [show (6 : Int32) = nI 6 from rfl, pk_mul, nI_add]
  exact vp_in_nI (by omega) (by decide)
theorem ri_has_1 {n c : Nat} (hn : n ≤ 19) (hc : c < n) : f_Ri_has (nI n) (nI c) = 1 := by
  unfold f_Ri_has
  rw [if_neg (nI_pos (by omega)), if_neg (by rw [nI_leI (by omega) (by omega)]; omega), if_neg (by rw [show (19 : Int32) = nI 19 from rfl, nI_ltI (by decide) (by omega)]; omega)]
theorem ri_has_0 {n : Nat} (hn : n ≤ 19) {ix : Int32} (h : ix < 0 ∨ nI n ≤ ix) : f_Ri_has (nI n) ix = 0 := by
  unfold f_Ri_has
  by_cases h0 : ix < 0
  · rw [if_pos h0]
  · rw [if_neg h0, if_pos (h.resolve_left h0)]
end
section
def f_Ri_at (rin : Int32) (rif : Nat → Int64) (ix : Int32) (wh : Int32) : Int64 := if (f_Ri_has rin ix) = 0 then 0 else (if wh < 0 then 0 else (if 6 ≤ wh then 0 else (rif ((ix * 6) + wh).toNatClampNeg)))
set_option maxHeartbeats 4000000 in
set_option maxRecDepth 100000 in
theorem c_Ri_at (l : Launch) (dC : Nat → ClassId) (dI : Nat → Nat → Nat) (cJ cI : ClassId) (ri : Nat) (ria : Nat) (rin : Int32) (rif : Nat → Int64) (ix : Int32) (wh : Int32) : Met l y_Ri_at w_Ri_at ({ frames := 1, cells := 0, slots := 0, locals := 21 } : Room) (rq_ro (dC, dI) cJ cI [.ref ri, .int ix, .int wh] [(ri, .inr (1, [.ref ria, .int rin])), (ria, .inl (cJ, 114, .inr (.inl rif)))]) (vp_Sl (fun r => r = f_Ri_at rin rif ix wh)) 0 0 (fun _ => False) := by
  refine Met.ofW (cc := b_Ri_at) (maxL := 3) (ret := (some .long)) (by decide) rfl ?_
  intro p e s m args below meth c s₁ B hml hv
  obtain ⟨rfl, hP, hK, hN⟩ := hv
  have hx := B.exec
  have hb := B.bytes
  have hr := B.returns
  have hts := atoms_spec (ws := w_Ri_at) B.pre
  have hown : s.vm.findClass R_Ri = some m.cls := findClass_of_methodNamed B.named
  have hlocks := B.notSynchronized
  have hl := lv_entry ([.ref ri, .int ix, .int wh]) (n := 3) (Nat.le_of_ble_eq_true rfl)
  rw [lg_entry_eq]
  generalize (lg_sl ([.ref ri, .int ix, .int wh]) ++ List.replicate (3 - (lg_sl ([.ref ri, .int ix, .int wh])).length) Slot.unset).toArray = ls at hl ⊢
  have hl : lv_has ls 3 [(0, .ref ri), (1, .int ix), (2, .int wh)] := hl
  refine lv_aload_n hx hb d_Ri_at_0 rfl (lv_at hl 0 rfl) ?_
  refine lv_iload_n hx hb d_Ri_at_1 rfl (lv_at hl 1 rfl) ?_
  have hPc := hP
  refine vp_callSi (va_Run.run (va_runV (As := [.int ix]) (rest := []) ⟨hx, hb, hml, hown, hts⟩ (c_Ri_has l dC dI cJ cI ri ria rin rif ix) (cwV 1 hts (gd_V wd_114 wd_105 wd_1 wd_35 wd_106) rfl rfl rfl (by decide +kernel) ⟨Nat.le_of_ble_eq_true rfl, Nat.le_of_ble_eq_true rfl⟩) ⟨fb_ro, va_recv hK hPc (ci := 1) (q0 := 0) rfl rfl, pre_ro hK hN hPc⟩ rfl rfl hl.1 rfl (lv_room (Nat.le_of_ble_eq_true rfl)) d_Ri_at_2 ⟨Nat.le_of_ble_eq_true rfl, Nat.le_of_ble_eq_true rfl⟩)) (fun r_1 er_1 => ?_)
  have er_1 : r_1 = f_Ri_has rin ix := er_1
  refine lv_if_eq (tgt := 32) hx hb d_Ri_at_5 (by decide) (fun c_2 => ?_) (fun c_2 => ?_)
  · have c_2 : r_1 = 0 := c_2
    refine lv_lconst (v := 0) hx hb d_Ri_at_32 (by decide) ?_
    subst er_1
    exact W.lret (v := 0) hx hb hr (fun t ht hW => ⟨_, rfl, by rw [f_Ri_at, if_pos c_2], ht⟩) (fun q h => by cases h) d_Ri_at_33
  · have c_2 : ¬ (r_1 = 0) := c_2
    refine lv_iload_n hx hb d_Ri_at_8 rfl (lv_at hl 2 rfl) ?_
    refine lv_if_lt (tgt := 32) hx hb d_Ri_at_9 (by decide) (fun c_3 => ?_) (fun c_3 => ?_)
    · have c_3 : wh < 0 := c_3
      refine lv_lconst (v := 0) hx hb d_Ri_at_32 (by decide) ?_
      subst er_1
      exact W.lret (v := 0) hx hb hr (fun t ht hW => ⟨_, rfl, by rw [f_Ri_at, if_neg c_2, if_pos c_3], ht⟩) (fun q h => by cases h) d_Ri_at_33
    · have c_3 : ¬ (wh < 0) := c_3
      refine lv_iload_n hx hb d_Ri_at_12 rfl (lv_at hl 2 rfl) ?_
      refine lv_bipush (v := 6) hx hb d_Ri_at_13 (by decide) ?_
      refine lv_icmp_ge (tgt := 32) hx hb d_Ri_at_15 (by decide) (fun c_4 => ?_) (fun c_4 => ?_)
      · have c_4 : 6 ≤ wh := c_4
        refine lv_lconst (v := 0) hx hb d_Ri_at_32 (by decide) ?_
        subst er_1
        exact W.lret (v := 0) hx hb hr (fun t ht hW => ⟨_, rfl, by rw [f_Ri_at, if_neg c_2, if_neg c_3, if_pos c_4], ht⟩) (fun q h => by cases h) d_Ri_at_33
      · have c_4 : ¬ (6 ≤ wh) := c_4
        refine lv_aload_n hx hb d_Ri_at_18 rfl (lv_at hl 0 rfl) ?_
        refine va_get (D := (dC, dI)) (ci := 1) (v := .ref ria) (C := R_Ri) (T := F_Ri) (N := 2) hx hb hts (fun w h => mw (i_Ri w h)) hown hK hP 0 rfl rfl 0 (by decide) (hts _ (mw wd_60)) (fun _ h9 => h9) rfl d_Ri_at_19 ?_
        refine lv_iload_n hx hb d_Ri_at_22 rfl (lv_at hl 1 rfl) ?_
        refine lv_bipush (v := 6) hx hb d_Ri_at_23 (by decide) ?_
        refine lv_imul hx hb d_Ri_at_25 ?_
        refine lv_iload_n hx hb d_Ri_at_26 rfl (lv_at hl 2 rfl) ?_
        refine lv_iadd hx hb d_Ri_at_27 ?_
        have hi_6 : vp_in ((ix * 6) + wh) 114 := ri_in (by rw [← er_1]; exact c_2) c_3 c_4
        refine va_lald hx hb hK hP 1 0 rfl rfl hi_6 d_Ri_at_28 ?_
        refine lv_topl (fun y_7 ey_7 => ?_)
        refine lv_goto (tgt := 33) hx hb d_Ri_at_29 (by decide) ?_
        subst er_1
        subst ey_7
        exact W.lret (v := rif ((ix * 6) + wh).toNatClampNeg) hx hb hr (fun t ht hW => ⟨_, rfl, by rw [f_Ri_at, if_neg c_2, if_neg c_3, if_neg c_4], ht⟩) (fun q h => by cases h) d_Ri_at_33
def f_Ri_put_1 (rin : Int32) (rif : Nat → Int64) (ix : Int32) (wh : Int32) (va : Int64) : Nat → Int64 := if (f_Ri_has rin ix) = 0 then rif else (if wh < 0 then rif else (if 6 ≤ wh then rif else (vp_updL rif ((ix * 6) + wh).toNatClampNeg va)))
set_option maxHeartbeats 4000000 in
set_option maxRecDepth 100000 in
theorem c_Ri_put (l : Launch) (dC : Nat → ClassId) (dI : Nat → Nat → Nat) (cJ cI : ClassId) (sz : Nat) (ri : Nat) (ria : Nat) (rin : Int32) (rif : Nat → Int64) (ix : Int32) (wh : Int32) (va : Int64) : Met l y_Ri_put w_Ri_put ({ frames := 1, cells := 0, slots := 0, locals := 21 } : Room) (rq_rw (dC, dI) cJ cI sz [.ref ri, .int ix, .int wh, .long va] [(ri, .inr (1, [.ref ria, .int rin])), (ria, .inl (cJ, 114, .inr (.inl rif)))]) (va_Qv (fun _ : Unit => True) (rz (dC, dI) (va_A [(ri, .inr (1, [.ref ria, .int rin])), (ria, .inl (cJ, 114, .inr (.inl rif)))] sz) [(ri, .inr (1, [.ref ria, .int rin])), (ria, .inl (cJ, 114, .inr (.inl (f_Ri_put_1 rin rif ix wh va))))]) (va_A [(ri, .inr (1, [.ref ria, .int rin])), (ria, .inl (cJ, 114, .inr (.inl rif)))] sz)) 0 0 (va_A [(ri, .inr (1, [.ref ria, .int rin])), (ria, .inl (cJ, 114, .inr (.inl rif)))] sz) := by
  refine Met.ofW (cc := b_Ri_put) (maxL := 5) (ret := none) (by decide) rfl ?_
  intro p e s m args below meth c s₁ B hml hv
  obtain ⟨rfl, hsz, hP, hK, hN, hD0⟩ := hv
  have hx := B.exec
  have hb := B.bytes
  have hr := B.returns
  have hts := atoms_spec (ws := w_Ri_put) B.pre
  have hown : s.vm.findClass R_Ri = some m.cls := findClass_of_methodNamed B.named
  have hlocks := B.notSynchronized
  subst hsz
  have hD := hD0.self (sz := s.heap.size)
  generalize hAe : va_A [(ri, .inr (1, [.ref ria, .int rin])), (ria, .inl (cJ, 114, .inr (.inl rif)))] s.heap.size = A at hD ⊢
  have hA : ∀ q : Nat, s.heap.size ≤ q → A q := fun q h => by rw [← hAe]; exact Or.inr h
  have hS : va_S A s.heap s.heap [] := va_S.rf
  have hl := lv_entry ([.ref ri, .int ix, .int wh, .long va]) (n := 5) (Nat.le_of_ble_eq_true rfl)
  rw [lg_entry_eq]
  generalize (lg_sl ([.ref ri, .int ix, .int wh, .long va]) ++ List.replicate (5 - (lg_sl ([.ref ri, .int ix, .int wh, .long va])).length) Slot.unset).toArray = ls at hl ⊢
  have hl : lv_has ls 5 [(0, .ref ri), (1, .int ix), (2, .int wh), (3, .long va)] := hl
  have hP : va_P (dC, dI) cls4 [(ri, .inr (1, [.ref ria, .int rin])), (ria, .inl (cJ, 114, .inr (.inl rif)))] s.heap := hP
  refine lv_aload_n hx hb d_Ri_put_0 rfl (lv_at hl 0 rfl) ?_
  refine lv_iload_n hx hb d_Ri_put_1 rfl (lv_at hl 1 rfl) ?_
  have hPc := hP
  refine vp_callSi (va_Run.run (va_runV (As := [.int ix]) (rest := []) ⟨hx, hb, hml, hown, hts⟩ (c_Ri_has l dC dI cJ cI ri ria rin rif ix) (cwV 1 hts (gd_V wd_114 wd_105 wd_1 wd_35 wd_106) rfl rfl rfl (by decide +kernel) ⟨Nat.le_of_ble_eq_true rfl, Nat.le_of_ble_eq_true rfl⟩) ⟨fb_ro, va_recv hK hPc (ci := 1) (q0 := 0) rfl rfl, pre_ro hK hN hPc⟩ rfl rfl hl.1 rfl (lv_room (Nat.le_of_ble_eq_true rfl)) d_Ri_put_2 ⟨Nat.le_of_ble_eq_true rfl, Nat.le_of_ble_eq_true rfl⟩)) (fun r_1 er_1 => ?_)
  have er_1 : r_1 = f_Ri_has rin ix := er_1
  refine lv_if_eq (tgt := 30) hx hb d_Ri_put_5 (by decide) (fun c_2 => ?_) (fun c_2 => ?_)
  · have c_2 : r_1 = 0 := c_2
    subst er_1
    have ew_3 : f_Ri_put_1 rin rif ix wh va = rif := by rw [f_Ri_put_1, if_pos c_2]
    exact W.vret hx hb hr (fun t ht hW => ⟨⟨(), rfl, trivial, by rw [ht, ew_3]; exact hP, by rw [ew_3]; exact hD⟩, hS.F ht⟩) hS.2.2 d_Ri_put_30
  · have c_2 : ¬ (r_1 = 0) := c_2
    refine lv_iload_n hx hb d_Ri_put_8 rfl (lv_at hl 2 rfl) ?_
    refine lv_if_lt (tgt := 30) hx hb d_Ri_put_9 (by decide) (fun c_4 => ?_) (fun c_4 => ?_)
    · have c_4 : wh < 0 := c_4
      subst er_1
      have ew_5 : f_Ri_put_1 rin rif ix wh va = rif := by rw [f_Ri_put_1, if_neg c_2, if_pos c_4]
      exact W.vret hx hb hr (fun t ht hW => ⟨⟨(), rfl, trivial, by rw [ht, ew_5]; exact hP, by rw [ew_5]; exact hD⟩, hS.F ht⟩) hS.2.2 d_Ri_put_30
    · have c_4 : ¬ (wh < 0) := c_4
      refine lv_iload_n hx hb d_Ri_put_12 rfl (lv_at hl 2 rfl) ?_
      refine lv_bipush (v := 6) hx hb d_Ri_put_13 (by decide) ?_
      refine lv_icmp_ge (tgt := 30) hx hb d_Ri_put_15 (by decide) (fun c_6 => ?_) (fun c_6 => ?_)
      · have c_6 : 6 ≤ wh := c_6
        subst er_1
        have ew_7 : f_Ri_put_1 rin rif ix wh va = rif := by rw [f_Ri_put_1, if_neg c_2, if_neg c_4, if_pos c_6]
        exact W.vret hx hb hr (fun t ht hW => ⟨⟨(), rfl, trivial, by rw [ht, ew_7]; exact hP, by rw [ew_7]; exact hD⟩, hS.F ht⟩) hS.2.2 d_Ri_put_30
      · have c_6 : ¬ (6 ≤ wh) := c_6
        refine lv_aload_n hx hb d_Ri_put_18 rfl (lv_at hl 0 rfl) ?_
        refine va_get (D := (dC, dI)) (ci := 1) (v := .ref ria) (C := R_Ri) (T := F_Ri) (N := 2) hx hb hts (fun w h => mw (i_Ri w h)) hown hK hP 0 rfl rfl 0 (by decide) (hts _ (mw wd_60)) (fun _ h9 => h9) rfl d_Ri_put_19 ?_
        refine lv_iload_n hx hb d_Ri_put_22 rfl (lv_at hl 1 rfl) ?_
        refine lv_bipush (v := 6) hx hb d_Ri_put_23 (by decide) ?_
        refine lv_imul hx hb d_Ri_put_25 ?_
        refine lv_iload_n hx hb d_Ri_put_26 rfl (lv_at hl 2 rfl) ?_
        refine lv_iadd hx hb d_Ri_put_27 ?_
        refine lv_lload_n hx hb d_Ri_put_28 rfl (lv_at hl 3 rfl) ?_
        have hi_9 : vp_in ((ix * 6) + wh) 114 := ri_in (by rw [← er_1]; exact c_2) c_4 c_6
        refine va_last hx hb hK hP hD hS 1 0 rfl rfl hi_9 d_Ri_put_29 (fun H locs hP hD hS => ?_)
        have hP : va_P (dC, dI) cls4 [(ri, .inr (1, [.ref ria, .int rin])), (ria, .inl (cJ, 114, .inr (.inl (vp_updL rif ((ix * 6) + wh).toNatClampNeg va))))] H := hP
        have hD : va_D A [(ri, .inr (1, [.ref ria, .int rin])), (ria, .inl (cJ, 114, .inr (.inl (vp_updL rif ((ix * 6) + wh).toNatClampNeg va))))] := hD
        subst er_1
        have ew_10 : f_Ri_put_1 rin rif ix wh va = vp_updL rif ((ix * 6) + wh).toNatClampNeg va := by rw [f_Ri_put_1, if_neg c_2, if_neg c_4, if_neg c_6]
        exact W.vret hx hb hr (fun t ht hW => ⟨⟨(), rfl, trivial, by rw [ht, ew_10]; exact hP, by rw [ew_10]; exact hD⟩, hS.F ht⟩) hS.2.2 d_Ri_put_30
set_option maxHeartbeats 4000000 in
set_option maxRecDepth 100000 in
theorem c_Ri_clear (l : Launch) (dC : Nat → ClassId) (dI : Nat → Nat → Nat) (cJ cI : ClassId) (sz : Nat) (ri : Nat) (ria : Nat) (rin : Int32) (rif : Nat → Int64) : Met l y_Ri_clear w_Ri_clear ({ frames := 0, cells := 0, slots := 0, locals := 0 } : Room) (rq_rw (dC, dI) cJ cI sz [.ref ri] [(ri, .inr (1, [.ref ria, .int rin])), (ria, .inl (cJ, 114, .inr (.inl rif)))]) (va_Qv (fun _ : Unit => True) (rz (dC, dI) (va_A [(ri, .inr (1, [.ref ria, .int rin])), (ria, .inl (cJ, 114, .inr (.inl rif)))] sz) [(ri, .inr (1, [.ref ria, .int 0])), (ria, .inl (cJ, 114, .inr (.inl rif)))]) (va_A [(ri, .inr (1, [.ref ria, .int rin])), (ria, .inl (cJ, 114, .inr (.inl rif)))] sz)) 0 0 (va_A [(ri, .inr (1, [.ref ria, .int rin])), (ria, .inl (cJ, 114, .inr (.inl rif)))] sz) := by
  refine Met.ofW (cc := b_Ri_clear) (maxL := 1) (ret := none) (by decide) rfl ?_
  intro p e s m args below meth c s₁ B hml hv
  obtain ⟨rfl, hsz, hP, hK, hN, hD0⟩ := hv
  have hx := B.exec
  have hb := B.bytes
  have hr := B.returns
  have hts := atoms_spec (ws := w_Ri_clear) B.pre
  have hown : s.vm.findClass R_Ri = some m.cls := findClass_of_methodNamed B.named
  have hlocks := B.notSynchronized
  subst hsz
  have hD := hD0.self (sz := s.heap.size)
  generalize hAe : va_A [(ri, .inr (1, [.ref ria, .int rin])), (ria, .inl (cJ, 114, .inr (.inl rif)))] s.heap.size = A at hD ⊢
  have hA : ∀ q : Nat, s.heap.size ≤ q → A q := fun q h => by rw [← hAe]; exact Or.inr h
  have hS : va_S A s.heap s.heap [] := va_S.rf
  have hl := lv_entry ([.ref ri]) (n := 1) (Nat.le_of_ble_eq_true rfl)
  rw [lg_entry_eq]
  generalize (lg_sl ([.ref ri]) ++ List.replicate (1 - (lg_sl ([.ref ri])).length) Slot.unset).toArray = ls at hl ⊢
  have hl : lv_has ls 1 [(0, .ref ri)] := hl
  have hP : va_P (dC, dI) cls4 [(ri, .inr (1, [.ref ria, .int rin])), (ria, .inl (cJ, 114, .inr (.inl rif)))] s.heap := hP
  refine lv_aload_n hx hb d_Ri_clear_0 rfl (lv_at hl 0 rfl) ?_
  refine lv_iconst (v := 0) hx hb d_Ri_clear_1 (by decide) ?_
  refine va_put (D := (dC, dI)) (ci := 1) (v := .int 0) (ty := .int) (C := R_Ri) (T := F_Ri) (N := 2) hx hb hts (fun w h => mw (i_Ri w h)) t_Ri t_Ri_ok n_Ri hown hK hP hD hS 0 rfl rfl 1 (by decide) (hts _ (mw wd_61)) (fun _ h9 => h9) rfl (by decide +kernel) rfl rfl (Nat.le_of_ble_eq_true rfl) d_Ri_clear_2 (fun H locs hP hD hS => ?_)
  have hP : va_P (dC, dI) cls4 [(ri, .inr (1, [.ref ria, .int 0])), (ria, .inl (cJ, 114, .inr (.inl rif)))] H := hP
  have hD : va_D A [(ri, .inr (1, [.ref ria, .int 0])), (ria, .inl (cJ, 114, .inr (.inl rif)))] := hD
  exact W.vret hx hb hr (fun t ht hW => ⟨⟨(), rfl, trivial, by rw [ht]; exact hP, by exact hD⟩, hS.F ht⟩) hS.2.2 d_Ri_clear_5
def f_Ri_addRow_r (rin : Int32) : Int32 := if rin < 19 then ((rin + 1) - 1) else (-1)
def f_Ri_addRow_0_1 (rin : Int32) : Int32 := if rin < 19 then (rin + 1) else rin
set_option maxHeartbeats 4000000 in
set_option maxRecDepth 100000 in
theorem c_Ri_addRow (l : Launch) (dC : Nat → ClassId) (dI : Nat → Nat → Nat) (cJ cI : ClassId) (sz : Nat) (ri : Nat) (ria : Nat) (rin : Int32) (rif : Nat → Int64) : Met l y_Ri_addRow w_Ri_addRow ({ frames := 0, cells := 0, slots := 0, locals := 0 } : Room) (rq_rw (dC, dI) cJ cI sz [.ref ri] [(ri, .inr (1, [.ref ria, .int rin])), (ria, .inl (cJ, 114, .inr (.inl rif)))]) (va_Qi (fun (r : Int32) (_ : Unit) => r = f_Ri_addRow_r rin) (rz (dC, dI) (va_A [(ri, .inr (1, [.ref ria, .int rin])), (ria, .inl (cJ, 114, .inr (.inl rif)))] sz) [(ri, .inr (1, [.ref ria, .int (f_Ri_addRow_0_1 rin)])), (ria, .inl (cJ, 114, .inr (.inl rif)))]) (va_A [(ri, .inr (1, [.ref ria, .int rin])), (ria, .inl (cJ, 114, .inr (.inl rif)))] sz)) 0 0 (va_A [(ri, .inr (1, [.ref ria, .int rin])), (ria, .inl (cJ, 114, .inr (.inl rif)))] sz) := by
  refine Met.ofW (cc := b_Ri_addRow) (maxL := 1) (ret := (some .int)) (by decide) rfl ?_
  intro p e s m args below meth c s₁ B hml hv
  obtain ⟨rfl, hsz, hP, hK, hN, hD0⟩ := hv
  have hx := B.exec
  have hb := B.bytes
  have hr := B.returns
  have hts := atoms_spec (ws := w_Ri_addRow) B.pre
  have hown : s.vm.findClass R_Ri = some m.cls := findClass_of_methodNamed B.named
  have hlocks := B.notSynchronized
  subst hsz
  have hD := hD0.self (sz := s.heap.size)
  generalize hAe : va_A [(ri, .inr (1, [.ref ria, .int rin])), (ria, .inl (cJ, 114, .inr (.inl rif)))] s.heap.size = A at hD ⊢
  have hA : ∀ q : Nat, s.heap.size ≤ q → A q := fun q h => by rw [← hAe]; exact Or.inr h
  have hS : va_S A s.heap s.heap [] := va_S.rf
  have hl := lv_entry ([.ref ri]) (n := 1) (Nat.le_of_ble_eq_true rfl)
  rw [lg_entry_eq]
  generalize (lg_sl ([.ref ri]) ++ List.replicate (1 - (lg_sl ([.ref ri])).length) Slot.unset).toArray = ls at hl ⊢
  have hl : lv_has ls 1 [(0, .ref ri)] := hl
  have hP : va_P (dC, dI) cls4 [(ri, .inr (1, [.ref ria, .int rin])), (ria, .inl (cJ, 114, .inr (.inl rif)))] s.heap := hP
  refine lv_aload_n hx hb d_Ri_addRow_0 rfl (lv_at hl 0 rfl) ?_
  refine va_get (D := (dC, dI)) (ci := 1) (v := .int rin) (C := R_Ri) (T := F_Ri) (N := 2) hx hb hts (fun w h => mw (i_Ri w h)) hown hK hP 0 rfl rfl 1 (by decide) (hts _ (mw wd_61)) (fun _ h9 => h9) rfl d_Ri_addRow_1 ?_
  refine lv_bipush (v := 19) hx hb d_Ri_addRow_4 (by decide) ?_
  refine lv_icmp_lt (tgt := 11) hx hb d_Ri_addRow_6 (by decide) (fun c_1 => ?_) (fun c_1 => ?_)
  · have c_1 : rin < 19 := c_1
    refine lv_aload_n hx hb d_Ri_addRow_11 rfl (lv_at hl 0 rfl) ?_
    refine lv_dup hx hb d_Ri_addRow_12 rfl ?_
    refine va_get (D := (dC, dI)) (ci := 1) (v := .int rin) (C := R_Ri) (T := F_Ri) (N := 2) hx hb hts (fun w h => mw (i_Ri w h)) hown hK hP 0 rfl rfl 1 (by decide) (hts _ (mw wd_61)) (fun _ h9 => h9) rfl d_Ri_addRow_13 ?_
    refine lv_iconst (v := 1) hx hb d_Ri_addRow_16 (by decide) ?_
    refine lv_iadd hx hb d_Ri_addRow_17 ?_
    refine lv_topi (fun y_2 ey_2 => ?_)
    refine va_put (D := (dC, dI)) (ci := 1) (v := .int y_2) (ty := .int) (C := R_Ri) (T := F_Ri) (N := 2) hx hb hts (fun w h => mw (i_Ri w h)) t_Ri t_Ri_ok n_Ri hown hK hP hD hS 0 rfl rfl 1 (by decide) (hts _ (mw wd_61)) (fun _ h9 => h9) rfl (by decide +kernel) rfl rfl (Nat.le_of_ble_eq_true rfl) d_Ri_addRow_18 (fun H locs hP hD hS => ?_)
    have hP : va_P (dC, dI) cls4 [(ri, .inr (1, [.ref ria, .int y_2])), (ria, .inl (cJ, 114, .inr (.inl rif)))] H := hP
    have hD : va_D A [(ri, .inr (1, [.ref ria, .int y_2])), (ria, .inl (cJ, 114, .inr (.inl rif)))] := hD
    refine lv_aload_n hx hb d_Ri_addRow_21 rfl (lv_at hl 0 rfl) ?_
    refine va_get (D := (dC, dI)) (ci := 1) (v := .int y_2) (C := R_Ri) (T := F_Ri) (N := 2) hx hb hts (fun w h => mw (i_Ri w h)) hown hK hP 0 rfl rfl 1 (by decide) (hts _ (mw wd_61)) (fun _ h9 => h9) rfl d_Ri_addRow_22 ?_
    refine lv_iconst (v := 1) hx hb d_Ri_addRow_25 (by decide) ?_
    refine lv_isub hx hb d_Ri_addRow_26 ?_
    subst ey_2
    have ew_3 : f_Ri_addRow_r rin = (rin + 1) - 1 := by rw [f_Ri_addRow_r, if_pos c_1]
    have ew_4 : f_Ri_addRow_0_1 rin = rin + 1 := by rw [f_Ri_addRow_0_1, if_pos c_1]
    exact W.iret (v := (rin + 1) - 1) hx hb hr (fun t ht hW => ⟨⟨_, (), rfl, by rw [f_Ri_addRow_r, if_pos c_1], by rw [ht, ew_4]; exact hP, by rw [ew_4]; exact hD⟩, hS.F ht⟩) hS.2.2 d_Ri_addRow_27
  · have c_1 : ¬ (rin < 19) := c_1
    refine lv_iconst (v := (-1)) hx hb d_Ri_addRow_9 (by decide) ?_
    have ew_5 : f_Ri_addRow_r rin = (-1) := by rw [f_Ri_addRow_r, if_neg c_1]
    have ew_6 : f_Ri_addRow_0_1 rin = rin := by rw [f_Ri_addRow_0_1, if_neg c_1]
    exact W.iret (v := (-1)) hx hb hr (fun t ht hW => ⟨⟨_, (), rfl, by rw [f_Ri_addRow_r, if_neg c_1], by rw [ht, ew_6]; exact hP, by rw [ew_6]; exact hD⟩, hS.F ht⟩) hS.2.2 d_Ri_addRow_10
def f_Ri_addCopy_1 (rin : Int32) (rif : Nat → Int64) (otn : Int32) (otf : Nat → Int64) (ix : Int32) : Nat → Int64 := f_Ri_put_1 (f_Ri_addRow_0_1 rin) (f_Ri_put_1 (f_Ri_addRow_0_1 rin) (f_Ri_put_1 (f_Ri_addRow_0_1 rin) (f_Ri_put_1 (f_Ri_addRow_0_1 rin) (f_Ri_put_1 (f_Ri_addRow_0_1 rin) (f_Ri_put_1 (f_Ri_addRow_0_1 rin) rif (f_Ri_addRow_r rin) 0 (f_Ri_at otn otf ix 0)) (f_Ri_addRow_r rin) 1 (f_Ri_at otn otf ix 1)) (f_Ri_addRow_r rin) 2 (f_Ri_at otn otf ix 2)) (f_Ri_addRow_r rin) 3 (f_Ri_at otn otf ix 3)) (f_Ri_addRow_r rin) 4 (f_Ri_at otn otf ix 4)) (f_Ri_addRow_r rin) 5 (f_Ri_at otn otf ix 5)
set_option maxHeartbeats 4000000 in
set_option maxRecDepth 100000 in
theorem c_Ri_addCopy (l : Launch) (dC : Nat → ClassId) (dI : Nat → Nat → Nat) (cJ cI : ClassId) (sz : Nat) (ri : Nat) (ria : Nat) (rin : Int32) (rif : Nat → Int64) (ot : Nat) (ota : Nat) (otn : Int32) (otf : Nat → Int64) (ix : Int32) : Met l y_Ri_addCopy w_Ri_addCopy ({ frames := 2, cells := 0, slots := 0, locals := 45 } : Room) (rq_rw (dC, dI) cJ cI sz [.ref ri, .ref ot, .int ix] [(ri, .inr (1, [.ref ria, .int rin])), (ria, .inl (cJ, 114, .inr (.inl rif))), (ot, .inr (1, [.ref ota, .int otn])), (ota, .inl (cJ, 114, .inr (.inl otf)))]) (va_Qv (fun _ : Unit => True) (rz (dC, dI) (va_A [(ri, .inr (1, [.ref ria, .int rin])), (ria, .inl (cJ, 114, .inr (.inl rif))), (ot, .inr (1, [.ref ota, .int otn])), (ota, .inl (cJ, 114, .inr (.inl otf)))] sz) [(ri, .inr (1, [.ref ria, .int (f_Ri_addRow_0_1 rin)])), (ria, .inl (cJ, 114, .inr (.inl (f_Ri_addCopy_1 rin rif otn otf ix)))), (ot, .inr (1, [.ref ota, .int otn])), (ota, .inl (cJ, 114, .inr (.inl otf)))]) (va_A [(ri, .inr (1, [.ref ria, .int rin])), (ria, .inl (cJ, 114, .inr (.inl rif))), (ot, .inr (1, [.ref ota, .int otn])), (ota, .inl (cJ, 114, .inr (.inl otf)))] sz)) 0 0 (va_A [(ri, .inr (1, [.ref ria, .int rin])), (ria, .inl (cJ, 114, .inr (.inl rif))), (ot, .inr (1, [.ref ota, .int otn])), (ota, .inl (cJ, 114, .inr (.inl otf)))] sz) := by
  refine Met.ofW (cc := b_Ri_addCopy) (maxL := 5) (ret := none) (by decide) rfl ?_
  intro p e s m args below meth c s₁ B hml hv
  obtain ⟨rfl, hsz, hP, hK, hN, hD0⟩ := hv
  have hx := B.exec
  have hb := B.bytes
  have hr := B.returns
  have hts := atoms_spec (ws := w_Ri_addCopy) B.pre
  have hown : s.vm.findClass R_Ri = some m.cls := findClass_of_methodNamed B.named
  have hlocks := B.notSynchronized
  subst hsz
  have hD := hD0.self (sz := s.heap.size)
  generalize hAe : va_A [(ri, .inr (1, [.ref ria, .int rin])), (ria, .inl (cJ, 114, .inr (.inl rif))), (ot, .inr (1, [.ref ota, .int otn])), (ota, .inl (cJ, 114, .inr (.inl otf)))] s.heap.size = A at hD ⊢
  have hA : ∀ q : Nat, s.heap.size ≤ q → A q := fun q h => by rw [← hAe]; exact Or.inr h
  have hS : va_S A s.heap s.heap [] := va_S.rf
  have hl := lv_entry ([.ref ri, .ref ot, .int ix]) (n := 5) (Nat.le_of_ble_eq_true rfl)
  rw [lg_entry_eq]
  generalize (lg_sl ([.ref ri, .ref ot, .int ix]) ++ List.replicate (5 - (lg_sl ([.ref ri, .ref ot, .int ix])).length) Slot.unset).toArray = ls at hl ⊢
  have hl : lv_has ls 5 [(0, .ref ri), (1, .ref ot), (2, .int ix)] := hl
  have hP : va_P (dC, dI) cls4 [(ri, .inr (1, [.ref ria, .int rin])), (ria, .inl (cJ, 114, .inr (.inl rif))), (ot, .inr (1, [.ref ota, .int otn])), (ota, .inl (cJ, 114, .inr (.inl otf)))] s.heap := hP
  refine lv_aload_n hx hb d_Ri_addCopy_0 rfl (lv_at hl 0 rfl) ?_
  have hPc := hP.sub (ws' := [(ri, .inr (1, [.ref ria, .int rin])), (ria, .inl (cJ, 114, .inr (.inl rif)))]) [0, 1] rfl
  have hDc := hD.sub (ws' := [(ri, .inr (1, [.ref ria, .int rin])), (ria, .inl (cJ, 114, .inr (.inl rif)))]) [0, 1] (by decide) rfl
  have hFc := va_free (wc := [(ri, .inr (1, [.ref ria, .int rin])), (ria, .inl (cJ, 114, .inr (.inl rif)))]) hD hS hA [0, 1] rfl
  refine va_calli (va_runV (As := []) (rest := []) ⟨hx, hb, hml, hown, hts⟩ (c_Ri_addRow l dC dI cJ cI s.heap.size ri ria rin rif) (cwV 0 hts (gd_V wd_133 wd_65 wd_0 wd_35 wd_66) rfl rfl rfl (by decide +kernel) ⟨Nat.le_of_ble_eq_true rfl, Nat.le_of_ble_eq_true rfl⟩) ⟨fb_rw, va_recv hK hPc (ci := 1) (q0 := 0) rfl rfl, pre_rw hK hN hPc hDc⟩ rfl rfl hl.1 rfl (lv_room (Nat.le_of_ble_eq_true rfl)) d_Ri_addCopy_1 ⟨Nat.le_of_ble_eq_true rfl, Nat.le_of_ble_eq_true rfl⟩) hS (fun q _ h => hFc q h) hFc (fun r_1 u t H locs ht hvm hw hB hz1 hk1 hS => ?_)
  obtain ⟨hP1, hD1⟩ := hB
  rw [ht] at hP1
  obtain ⟨hP, hD⟩ := va_join (wr := [(ot, .inr (1, [.ref ota, .int otn])), (ota, .inl (cJ, 114, .inr (.inl otf)))]) (w1 := [(ri, .inr (1, [.ref ria, .int (f_Ri_addRow_0_1 rin)])), (ria, .inl (cJ, 114, .inr (.inl rif)))]) hP hD [0, 1] [2, 3] rfl rfl (by decide) (by decide) hk1 hFc hP1 hD1
  have er_1 := hw
  have er_1 : r_1 = f_Ri_addRow_r rin := er_1
  have hP : va_P (dC, dI) cls4 [(ri, .inr (1, [.ref ria, .int (f_Ri_addRow_0_1 rin)])), (ria, .inl (cJ, 114, .inr (.inl rif))), (ot, .inr (1, [.ref ota, .int otn])), (ota, .inl (cJ, 114, .inr (.inl otf)))] H := hP.sub [2, 3, 0, 1] rfl
  have hD : va_D A [(ri, .inr (1, [.ref ria, .int (f_Ri_addRow_0_1 rin)])), (ria, .inl (cJ, 114, .inr (.inl rif))), (ot, .inr (1, [.ref ota, .int otn])), (ota, .inl (cJ, 114, .inr (.inl otf)))] := hD.sub [2, 3, 0, 1] (by decide) rfl
  refine lv_istore_n (lv' := [(3, .int r_1), (0, .ref ri), (1, .ref ot), (2, .int ix)]) hx hb d_Ri_addCopy_4 rfl hl (by decide) rfl (fun ls hl => ?_)
  refine lv_iconst (v := 0) hx hb d_Ri_addCopy_5 (by decide) ?_
  refine lv_istore (lv' := [(4, .int 0), (3, .int r_1), (0, .ref ri), (1, .ref ot), (2, .int ix)]) hx hb d_Ri_addCopy_6 hl (by decide) rfl (fun ls hl => ?_)
  refine lv_iload hx hb d_Ri_addCopy_8 (lv_at hl 0 rfl) ?_
  refine lv_bipush (v := 6) hx hb d_Ri_addCopy_10 (by decide) ?_
  refine lv_icmp_ge (tgt := 35) hx hb d_Ri_addCopy_12 (by decide) (fun c_2 => absurd c_2 (by decide)) (fun _ => ?_)
  refine lv_aload_n hx hb d_Ri_addCopy_15 rfl (lv_at hl 2 rfl) ?_
  refine lv_iload_n hx hb d_Ri_addCopy_16 rfl (lv_at hl 1 rfl) ?_
  refine lv_iload hx hb d_Ri_addCopy_17 (lv_at hl 0 rfl) ?_
  refine lv_aload_n hx hb d_Ri_addCopy_19 rfl (lv_at hl 3 rfl) ?_
  refine lv_iload_n hx hb d_Ri_addCopy_20 rfl (lv_at hl 4 rfl) ?_
  refine lv_iload hx hb d_Ri_addCopy_21 (lv_at hl 0 rfl) ?_
  have hPc := hP.sub (ws' := [(ot, .inr (1, [.ref ota, .int otn])), (ota, .inl (cJ, 114, .inr (.inl otf)))]) [2, 3] rfl
  refine vp_callSl (va_Run.run (va_runV (As := [.int ix, .int 0]) (rest := [.int 0, .int r_1, .ref ri]) ⟨hx, hb, hml, hown, hts⟩ (c_Ri_at l dC dI cJ cI ot ota otn otf ix 0) (cwV 2 hts (gd_V wd_134 wd_135 wd_5 wd_35 wd_136) rfl rfl rfl (by decide +kernel) ⟨Nat.le_of_ble_eq_true rfl, Nat.le_of_ble_eq_true rfl⟩) ⟨fb_ro, va_recv hK hPc (ci := 1) (q0 := 0) rfl rfl, pre_ro hK hN hPc⟩ rfl rfl hl.1 rfl (lv_room (Nat.le_of_ble_eq_true rfl)) d_Ri_addCopy_23 ⟨Nat.le_of_ble_eq_true rfl, Nat.le_of_ble_eq_true rfl⟩)) (fun r_3 er_3 => ?_)
  have er_3 : r_3 = f_Ri_at otn otf ix 0 := er_3
  have hPc := hP.sub (ws' := [(ri, .inr (1, [.ref ria, .int (f_Ri_addRow_0_1 rin)])), (ria, .inl (cJ, 114, .inr (.inl rif)))]) [0, 1] rfl
  have hDc := hD.sub (ws' := [(ri, .inr (1, [.ref ria, .int (f_Ri_addRow_0_1 rin)])), (ria, .inl (cJ, 114, .inr (.inl rif)))]) [0, 1] (by decide) rfl
  have hFc := va_free (wc := [(ri, .inr (1, [.ref ria, .int (f_Ri_addRow_0_1 rin)])), (ria, .inl (cJ, 114, .inr (.inl rif)))]) hD hS hA [0, 1] rfl
  refine va_callv (va_runV (As := [.int r_1, .int 0, .long r_3]) (rest := []) ⟨hx, hb, hml, hown, hts⟩ (c_Ri_put l dC dI cJ cI H.size ri ria (f_Ri_addRow_0_1 rin) rif r_1 0 r_3) (cwV 3 hts (gd_V wd_137 wd_112 wd_2 wd_35 wd_113) rfl rfl rfl (by decide +kernel) ⟨Nat.le_of_ble_eq_true rfl, Nat.le_of_ble_eq_true rfl⟩) ⟨fb_rw, va_recv hK hPc (ci := 1) (q0 := 0) rfl rfl, pre_rw hK hN hPc hDc⟩ rfl rfl hl.1 rfl (lv_room (Nat.le_of_ble_eq_true rfl)) d_Ri_addCopy_26 ⟨Nat.le_of_ble_eq_true rfl, Nat.le_of_ble_eq_true rfl⟩) hS (fun q _ h => hFc q h) hFc (fun u t H locs ht hvm hw hB hz1 hk1 hS => ?_)
  obtain ⟨hP1, hD1⟩ := hB
  rw [ht] at hP1
  obtain ⟨hP, hD⟩ := va_join (wr := [(ot, .inr (1, [.ref ota, .int otn])), (ota, .inl (cJ, 114, .inr (.inl otf)))]) (w1 := [(ri, .inr (1, [.ref ria, .int (f_Ri_addRow_0_1 rin)])), (ria, .inl (cJ, 114, .inr (.inl (f_Ri_put_1 (f_Ri_addRow_0_1 rin) rif r_1 0 r_3))))]) hP hD [0, 1] [2, 3] rfl rfl (by decide) (by decide) hk1 hFc hP1 hD1
  have hP : va_P (dC, dI) cls4 [(ri, .inr (1, [.ref ria, .int (f_Ri_addRow_0_1 rin)])), (ria, .inl (cJ, 114, .inr (.inl (f_Ri_put_1 (f_Ri_addRow_0_1 rin) rif r_1 0 r_3)))), (ot, .inr (1, [.ref ota, .int otn])), (ota, .inl (cJ, 114, .inr (.inl otf)))] H := hP.sub [2, 3, 0, 1] rfl
  have hD : va_D A [(ri, .inr (1, [.ref ria, .int (f_Ri_addRow_0_1 rin)])), (ria, .inl (cJ, 114, .inr (.inl (f_Ri_put_1 (f_Ri_addRow_0_1 rin) rif r_1 0 r_3)))), (ot, .inr (1, [.ref ota, .int otn])), (ota, .inl (cJ, 114, .inr (.inl otf)))] := hD.sub [2, 3, 0, 1] (by decide) rfl
  refine lv_iinc (v := 1) (lv' := [(4, .int 1), (3, .int r_1), (0, .ref ri), (1, .ref ot), (2, .int ix)]) hx hb d_Ri_addCopy_29 hl (k := 0) rfl (by decide) (by decide) rfl (fun ls hl => ?_)
  refine lv_goto (tgt := 8) hx hb d_Ri_addCopy_32 (by decide) ?_
  refine lv_iload hx hb d_Ri_addCopy_8 (lv_at hl 0 rfl) ?_
  refine lv_bipush (v := 6) hx hb d_Ri_addCopy_10 (by decide) ?_
  refine lv_icmp_ge (tgt := 35) hx hb d_Ri_addCopy_12 (by decide) (fun c_4 => absurd c_4 (by decide)) (fun _ => ?_)
  refine lv_aload_n hx hb d_Ri_addCopy_15 rfl (lv_at hl 2 rfl) ?_
  refine lv_iload_n hx hb d_Ri_addCopy_16 rfl (lv_at hl 1 rfl) ?_
  refine lv_iload hx hb d_Ri_addCopy_17 (lv_at hl 0 rfl) ?_
  refine lv_aload_n hx hb d_Ri_addCopy_19 rfl (lv_at hl 3 rfl) ?_
  refine lv_iload_n hx hb d_Ri_addCopy_20 rfl (lv_at hl 4 rfl) ?_
  refine lv_iload hx hb d_Ri_addCopy_21 (lv_at hl 0 rfl) ?_
  have hPc := hP.sub (ws' := [(ot, .inr (1, [.ref ota, .int otn])), (ota, .inl (cJ, 114, .inr (.inl otf)))]) [2, 3] rfl
  refine vp_callSl (va_Run.run (va_runV (As := [.int ix, .int 1]) (rest := [.int 1, .int r_1, .ref ri]) ⟨hx, hb, hml, hown, hts⟩ (c_Ri_at l dC dI cJ cI ot ota otn otf ix 1) (cwV 2 hts (gd_V wd_134 wd_135 wd_5 wd_35 wd_136) rfl rfl rfl (by decide +kernel) ⟨Nat.le_of_ble_eq_true rfl, Nat.le_of_ble_eq_true rfl⟩) ⟨fb_ro, va_recv hK hPc (ci := 1) (q0 := 0) rfl rfl, pre_ro hK hN hPc⟩ rfl rfl hl.1 rfl (lv_room (Nat.le_of_ble_eq_true rfl)) d_Ri_addCopy_23 ⟨Nat.le_of_ble_eq_true rfl, Nat.le_of_ble_eq_true rfl⟩)) (fun r_5 er_5 => ?_)
  have er_5 : r_5 = f_Ri_at otn otf ix 1 := er_5
  have hPc := hP.sub (ws' := [(ri, .inr (1, [.ref ria, .int (f_Ri_addRow_0_1 rin)])), (ria, .inl (cJ, 114, .inr (.inl (f_Ri_put_1 (f_Ri_addRow_0_1 rin) rif r_1 0 r_3))))]) [0, 1] rfl
  have hDc := hD.sub (ws' := [(ri, .inr (1, [.ref ria, .int (f_Ri_addRow_0_1 rin)])), (ria, .inl (cJ, 114, .inr (.inl (f_Ri_put_1 (f_Ri_addRow_0_1 rin) rif r_1 0 r_3))))]) [0, 1] (by decide) rfl
  have hFc := va_free (wc := [(ri, .inr (1, [.ref ria, .int (f_Ri_addRow_0_1 rin)])), (ria, .inl (cJ, 114, .inr (.inl (f_Ri_put_1 (f_Ri_addRow_0_1 rin) rif r_1 0 r_3))))]) hD hS hA [0, 1] rfl
  refine va_callv (va_runV (As := [.int r_1, .int 1, .long r_5]) (rest := []) ⟨hx, hb, hml, hown, hts⟩ (c_Ri_put l dC dI cJ cI H.size ri ria (f_Ri_addRow_0_1 rin) (f_Ri_put_1 (f_Ri_addRow_0_1 rin) rif r_1 0 r_3) r_1 1 r_5) (cwV 3 hts (gd_V wd_137 wd_112 wd_2 wd_35 wd_113) rfl rfl rfl (by decide +kernel) ⟨Nat.le_of_ble_eq_true rfl, Nat.le_of_ble_eq_true rfl⟩) ⟨fb_rw, va_recv hK hPc (ci := 1) (q0 := 0) rfl rfl, pre_rw hK hN hPc hDc⟩ rfl rfl hl.1 rfl (lv_room (Nat.le_of_ble_eq_true rfl)) d_Ri_addCopy_26 ⟨Nat.le_of_ble_eq_true rfl, Nat.le_of_ble_eq_true rfl⟩) hS (fun q _ h => hFc q h) hFc (fun u t H locs ht hvm hw hB hz1 hk1 hS => ?_)
  obtain ⟨hP1, hD1⟩ := hB
  rw [ht] at hP1
  obtain ⟨hP, hD⟩ := va_join (wr := [(ot, .inr (1, [.ref ota, .int otn])), (ota, .inl (cJ, 114, .inr (.inl otf)))]) (w1 := [(ri, .inr (1, [.ref ria, .int (f_Ri_addRow_0_1 rin)])), (ria, .inl (cJ, 114, .inr (.inl (f_Ri_put_1 (f_Ri_addRow_0_1 rin) (f_Ri_put_1 (f_Ri_addRow_0_1 rin) rif r_1 0 r_3) r_1 1 r_5))))]) hP hD [0, 1] [2, 3] rfl rfl (by decide) (by decide) hk1 hFc hP1 hD1
  have hP : va_P (dC, dI) cls4 [(ri, .inr (1, [.ref ria, .int (f_Ri_addRow_0_1 rin)])), (ria, .inl (cJ, 114, .inr (.inl (f_Ri_put_1 (f_Ri_addRow_0_1 rin) (f_Ri_put_1 (f_Ri_addRow_0_1 rin) rif r_1 0 r_3) r_1 1 r_5)))), (ot, .inr (1, [.ref ota, .int otn])), (ota, .inl (cJ, 114, .inr (.inl otf)))] H := hP.sub [2, 3, 0, 1] rfl
  have hD : va_D A [(ri, .inr (1, [.ref ria, .int (f_Ri_addRow_0_1 rin)])), (ria, .inl (cJ, 114, .inr (.inl (f_Ri_put_1 (f_Ri_addRow_0_1 rin) (f_Ri_put_1 (f_Ri_addRow_0_1 rin) rif r_1 0 r_3) r_1 1 r_5)))), (ot, .inr (1, [.ref ota, .int otn])), (ota, .inl (cJ, 114, .inr (.inl otf)))] := hD.sub [2, 3, 0, 1] (by decide) rfl
  refine lv_iinc (v := 2) (lv' := [(4, .int 2), (3, .int r_1), (0, .ref ri), (1, .ref ot), (2, .int ix)]) hx hb d_Ri_addCopy_29 hl (k := 0) rfl (by decide) (by decide) rfl (fun ls hl => ?_)
  refine lv_goto (tgt := 8) hx hb d_Ri_addCopy_32 (by decide) ?_
  refine lv_iload hx hb d_Ri_addCopy_8 (lv_at hl 0 rfl) ?_
  refine lv_bipush (v := 6) hx hb d_Ri_addCopy_10 (by decide) ?_
  refine lv_icmp_ge (tgt := 35) hx hb d_Ri_addCopy_12 (by decide) (fun c_6 => absurd c_6 (by decide)) (fun _ => ?_)
  refine lv_aload_n hx hb d_Ri_addCopy_15 rfl (lv_at hl 2 rfl) ?_
  refine lv_iload_n hx hb d_Ri_addCopy_16 rfl (lv_at hl 1 rfl) ?_
  refine lv_iload hx hb d_Ri_addCopy_17 (lv_at hl 0 rfl) ?_
  refine lv_aload_n hx hb d_Ri_addCopy_19 rfl (lv_at hl 3 rfl) ?_
  refine lv_iload_n hx hb d_Ri_addCopy_20 rfl (lv_at hl 4 rfl) ?_
  refine lv_iload hx hb d_Ri_addCopy_21 (lv_at hl 0 rfl) ?_
  have hPc := hP.sub (ws' := [(ot, .inr (1, [.ref ota, .int otn])), (ota, .inl (cJ, 114, .inr (.inl otf)))]) [2, 3] rfl
  refine vp_callSl (va_Run.run (va_runV (As := [.int ix, .int 2]) (rest := [.int 2, .int r_1, .ref ri]) ⟨hx, hb, hml, hown, hts⟩ (c_Ri_at l dC dI cJ cI ot ota otn otf ix 2) (cwV 2 hts (gd_V wd_134 wd_135 wd_5 wd_35 wd_136) rfl rfl rfl (by decide +kernel) ⟨Nat.le_of_ble_eq_true rfl, Nat.le_of_ble_eq_true rfl⟩) ⟨fb_ro, va_recv hK hPc (ci := 1) (q0 := 0) rfl rfl, pre_ro hK hN hPc⟩ rfl rfl hl.1 rfl (lv_room (Nat.le_of_ble_eq_true rfl)) d_Ri_addCopy_23 ⟨Nat.le_of_ble_eq_true rfl, Nat.le_of_ble_eq_true rfl⟩)) (fun r_7 er_7 => ?_)
  have er_7 : r_7 = f_Ri_at otn otf ix 2 := er_7
  have hPc := hP.sub (ws' := [(ri, .inr (1, [.ref ria, .int (f_Ri_addRow_0_1 rin)])), (ria, .inl (cJ, 114, .inr (.inl (f_Ri_put_1 (f_Ri_addRow_0_1 rin) (f_Ri_put_1 (f_Ri_addRow_0_1 rin) rif r_1 0 r_3) r_1 1 r_5))))]) [0, 1] rfl
  have hDc := hD.sub (ws' := [(ri, .inr (1, [.ref ria, .int (f_Ri_addRow_0_1 rin)])), (ria, .inl (cJ, 114, .inr (.inl (f_Ri_put_1 (f_Ri_addRow_0_1 rin) (f_Ri_put_1 (f_Ri_addRow_0_1 rin) rif r_1 0 r_3) r_1 1 r_5))))]) [0, 1] (by decide) rfl
  have hFc := va_free (wc := [(ri, .inr (1, [.ref ria, .int (f_Ri_addRow_0_1 rin)])), (ria, .inl (cJ, 114, .inr (.inl (f_Ri_put_1 (f_Ri_addRow_0_1 rin) (f_Ri_put_1 (f_Ri_addRow_0_1 rin) rif r_1 0 r_3) r_1 1 r_5))))]) hD hS hA [0, 1] rfl
  refine va_callv (va_runV (As := [.int r_1, .int 2, .long r_7]) (rest := []) ⟨hx, hb, hml, hown, hts⟩ (c_Ri_put l dC dI cJ cI H.size ri ria (f_Ri_addRow_0_1 rin) (f_Ri_put_1 (f_Ri_addRow_0_1 rin) (f_Ri_put_1 (f_Ri_addRow_0_1 rin) rif r_1 0 r_3) r_1 1 r_5) r_1 2 r_7) (cwV 3 hts (gd_V wd_137 wd_112 wd_2 wd_35 wd_113) rfl rfl rfl (by decide +kernel) ⟨Nat.le_of_ble_eq_true rfl, Nat.le_of_ble_eq_true rfl⟩) ⟨fb_rw, va_recv hK hPc (ci := 1) (q0 := 0) rfl rfl, pre_rw hK hN hPc hDc⟩ rfl rfl hl.1 rfl (lv_room (Nat.le_of_ble_eq_true rfl)) d_Ri_addCopy_26 ⟨Nat.le_of_ble_eq_true rfl, Nat.le_of_ble_eq_true rfl⟩) hS (fun q _ h => hFc q h) hFc (fun u t H locs ht hvm hw hB hz1 hk1 hS => ?_)
  obtain ⟨hP1, hD1⟩ := hB
  rw [ht] at hP1
  obtain ⟨hP, hD⟩ := va_join (wr := [(ot, .inr (1, [.ref ota, .int otn])), (ota, .inl (cJ, 114, .inr (.inl otf)))]) (w1 := [(ri, .inr (1, [.ref ria, .int (f_Ri_addRow_0_1 rin)])), (ria, .inl (cJ, 114, .inr (.inl (f_Ri_put_1 (f_Ri_addRow_0_1 rin) (f_Ri_put_1 (f_Ri_addRow_0_1 rin) (f_Ri_put_1 (f_Ri_addRow_0_1 rin) rif r_1 0 r_3) r_1 1 r_5) r_1 2 r_7))))]) hP hD [0, 1] [2, 3] rfl rfl (by decide) (by decide) hk1 hFc hP1 hD1
  have hP : va_P (dC, dI) cls4 [(ri, .inr (1, [.ref ria, .int (f_Ri_addRow_0_1 rin)])), (ria, .inl (cJ, 114, .inr (.inl (f_Ri_put_1 (f_Ri_addRow_0_1 rin) (f_Ri_put_1 (f_Ri_addRow_0_1 rin) (f_Ri_put_1 (f_Ri_addRow_0_1 rin) rif r_1 0 r_3) r_1 1 r_5) r_1 2 r_7)))), (ot, .inr (1, [.ref ota, .int otn])), (ota, .inl (cJ, 114, .inr (.inl otf)))] H := hP.sub [2, 3, 0, 1] rfl
  have hD : va_D A [(ri, .inr (1, [.ref ria, .int (f_Ri_addRow_0_1 rin)])), (ria, .inl (cJ, 114, .inr (.inl (f_Ri_put_1 (f_Ri_addRow_0_1 rin) (f_Ri_put_1 (f_Ri_addRow_0_1 rin) (f_Ri_put_1 (f_Ri_addRow_0_1 rin) rif r_1 0 r_3) r_1 1 r_5) r_1 2 r_7)))), (ot, .inr (1, [.ref ota, .int otn])), (ota, .inl (cJ, 114, .inr (.inl otf)))] := hD.sub [2, 3, 0, 1] (by decide) rfl
  refine lv_iinc (v := 3) (lv' := [(4, .int 3), (3, .int r_1), (0, .ref ri), (1, .ref ot), (2, .int ix)]) hx hb d_Ri_addCopy_29 hl (k := 0) rfl (by decide) (by decide) rfl (fun ls hl => ?_)
  refine lv_goto (tgt := 8) hx hb d_Ri_addCopy_32 (by decide) ?_
  refine lv_iload hx hb d_Ri_addCopy_8 (lv_at hl 0 rfl) ?_
  refine lv_bipush (v := 6) hx hb d_Ri_addCopy_10 (by decide) ?_
  refine lv_icmp_ge (tgt := 35) hx hb d_Ri_addCopy_12 (by decide) (fun c_8 => absurd c_8 (by decide)) (fun _ => ?_)
  refine lv_aload_n hx hb d_Ri_addCopy_15 rfl (lv_at hl 2 rfl) ?_
  refine lv_iload_n hx hb d_Ri_addCopy_16 rfl (lv_at hl 1 rfl) ?_
  refine lv_iload hx hb d_Ri_addCopy_17 (lv_at hl 0 rfl) ?_
  refine lv_aload_n hx hb d_Ri_addCopy_19 rfl (lv_at hl 3 rfl) ?_
  refine lv_iload_n hx hb d_Ri_addCopy_20 rfl (lv_at hl 4 rfl) ?_
  refine lv_iload hx hb d_Ri_addCopy_21 (lv_at hl 0 rfl) ?_
  have hPc := hP.sub (ws' := [(ot, .inr (1, [.ref ota, .int otn])), (ota, .inl (cJ, 114, .inr (.inl otf)))]) [2, 3] rfl
  refine vp_callSl (va_Run.run (va_runV (As := [.int ix, .int 3]) (rest := [.int 3, .int r_1, .ref ri]) ⟨hx, hb, hml, hown, hts⟩ (c_Ri_at l dC dI cJ cI ot ota otn otf ix 3) (cwV 2 hts (gd_V wd_134 wd_135 wd_5 wd_35 wd_136) rfl rfl rfl (by decide +kernel) ⟨Nat.le_of_ble_eq_true rfl, Nat.le_of_ble_eq_true rfl⟩) ⟨fb_ro, va_recv hK hPc (ci := 1) (q0 := 0) rfl rfl, pre_ro hK hN hPc⟩ rfl rfl hl.1 rfl (lv_room (Nat.le_of_ble_eq_true rfl)) d_Ri_addCopy_23 ⟨Nat.le_of_ble_eq_true rfl, Nat.le_of_ble_eq_true rfl⟩)) (fun r_9 er_9 => ?_)
  have er_9 : r_9 = f_Ri_at otn otf ix 3 := er_9
  have hPc := hP.sub (ws' := [(ri, .inr (1, [.ref ria, .int (f_Ri_addRow_0_1 rin)])), (ria, .inl (cJ, 114, .inr (.inl (f_Ri_put_1 (f_Ri_addRow_0_1 rin) (f_Ri_put_1 (f_Ri_addRow_0_1 rin) (f_Ri_put_1 (f_Ri_addRow_0_1 rin) rif r_1 0 r_3) r_1 1 r_5) r_1 2 r_7))))]) [0, 1] rfl
  have hDc := hD.sub (ws' := [(ri, .inr (1, [.ref ria, .int (f_Ri_addRow_0_1 rin)])), (ria, .inl (cJ, 114, .inr (.inl (f_Ri_put_1 (f_Ri_addRow_0_1 rin) (f_Ri_put_1 (f_Ri_addRow_0_1 rin) (f_Ri_put_1 (f_Ri_addRow_0_1 rin) rif r_1 0 r_3) r_1 1 r_5) r_1 2 r_7))))]) [0, 1] (by decide) rfl
  have hFc := va_free (wc := [(ri, .inr (1, [.ref ria, .int (f_Ri_addRow_0_1 rin)])), (ria, .inl (cJ, 114, .inr (.inl (f_Ri_put_1 (f_Ri_addRow_0_1 rin) (f_Ri_put_1 (f_Ri_addRow_0_1 rin) (f_Ri_put_1 (f_Ri_addRow_0_1 rin) rif r_1 0 r_3) r_1 1 r_5) r_1 2 r_7))))]) hD hS hA [0, 1] rfl
  refine va_callv (va_runV (As := [.int r_1, .int 3, .long r_9]) (rest := []) ⟨hx, hb, hml, hown, hts⟩ (c_Ri_put l dC dI cJ cI H.size ri ria (f_Ri_addRow_0_1 rin) (f_Ri_put_1 (f_Ri_addRow_0_1 rin) (f_Ri_put_1 (f_Ri_addRow_0_1 rin) (f_Ri_put_1 (f_Ri_addRow_0_1 rin) rif r_1 0 r_3) r_1 1 r_5) r_1 2 r_7) r_1 3 r_9) (cwV 3 hts (gd_V wd_137 wd_112 wd_2 wd_35 wd_113) rfl rfl rfl (by decide +kernel) ⟨Nat.le_of_ble_eq_true rfl, Nat.le_of_ble_eq_true rfl⟩) ⟨fb_rw, va_recv hK hPc (ci := 1) (q0 := 0) rfl rfl, pre_rw hK hN hPc hDc⟩ rfl rfl hl.1 rfl (lv_room (Nat.le_of_ble_eq_true rfl)) d_Ri_addCopy_26 ⟨Nat.le_of_ble_eq_true rfl, Nat.le_of_ble_eq_true rfl⟩) hS (fun q _ h => hFc q h) hFc (fun u t H locs ht hvm hw hB hz1 hk1 hS => ?_)
  obtain ⟨hP1, hD1⟩ := hB
  rw [ht] at hP1
  obtain ⟨hP, hD⟩ := va_join (wr := [(ot, .inr (1, [.ref ota, .int otn])), (ota, .inl (cJ, 114, .inr (.inl otf)))]) (w1 := [(ri, .inr (1, [.ref ria, .int (f_Ri_addRow_0_1 rin)])), (ria, .inl (cJ, 114, .inr (.inl (f_Ri_put_1 (f_Ri_addRow_0_1 rin) (f_Ri_put_1 (f_Ri_addRow_0_1 rin) (f_Ri_put_1 (f_Ri_addRow_0_1 rin) (f_Ri_put_1 (f_Ri_addRow_0_1 rin) rif r_1 0 r_3) r_1 1 r_5) r_1 2 r_7) r_1 3 r_9))))]) hP hD [0, 1] [2, 3] rfl rfl (by decide) (by decide) hk1 hFc hP1 hD1
  have hP : va_P (dC, dI) cls4 [(ri, .inr (1, [.ref ria, .int (f_Ri_addRow_0_1 rin)])), (ria, .inl (cJ, 114, .inr (.inl (f_Ri_put_1 (f_Ri_addRow_0_1 rin) (f_Ri_put_1 (f_Ri_addRow_0_1 rin) (f_Ri_put_1 (f_Ri_addRow_0_1 rin) (f_Ri_put_1 (f_Ri_addRow_0_1 rin) rif r_1 0 r_3) r_1 1 r_5) r_1 2 r_7) r_1 3 r_9)))), (ot, .inr (1, [.ref ota, .int otn])), (ota, .inl (cJ, 114, .inr (.inl otf)))] H := hP.sub [2, 3, 0, 1] rfl
  have hD : va_D A [(ri, .inr (1, [.ref ria, .int (f_Ri_addRow_0_1 rin)])), (ria, .inl (cJ, 114, .inr (.inl (f_Ri_put_1 (f_Ri_addRow_0_1 rin) (f_Ri_put_1 (f_Ri_addRow_0_1 rin) (f_Ri_put_1 (f_Ri_addRow_0_1 rin) (f_Ri_put_1 (f_Ri_addRow_0_1 rin) rif r_1 0 r_3) r_1 1 r_5) r_1 2 r_7) r_1 3 r_9)))), (ot, .inr (1, [.ref ota, .int otn])), (ota, .inl (cJ, 114, .inr (.inl otf)))] := hD.sub [2, 3, 0, 1] (by decide) rfl
  refine lv_iinc (v := 4) (lv' := [(4, .int 4), (3, .int r_1), (0, .ref ri), (1, .ref ot), (2, .int ix)]) hx hb d_Ri_addCopy_29 hl (k := 0) rfl (by decide) (by decide) rfl (fun ls hl => ?_)
  refine lv_goto (tgt := 8) hx hb d_Ri_addCopy_32 (by decide) ?_
  refine lv_iload hx hb d_Ri_addCopy_8 (lv_at hl 0 rfl) ?_
  refine lv_bipush (v := 6) hx hb d_Ri_addCopy_10 (by decide) ?_
  refine lv_icmp_ge (tgt := 35) hx hb d_Ri_addCopy_12 (by decide) (fun c_10 => absurd c_10 (by decide)) (fun _ => ?_)
  refine lv_aload_n hx hb d_Ri_addCopy_15 rfl (lv_at hl 2 rfl) ?_
  refine lv_iload_n hx hb d_Ri_addCopy_16 rfl (lv_at hl 1 rfl) ?_
  refine lv_iload hx hb d_Ri_addCopy_17 (lv_at hl 0 rfl) ?_
  refine lv_aload_n hx hb d_Ri_addCopy_19 rfl (lv_at hl 3 rfl) ?_
  refine lv_iload_n hx hb d_Ri_addCopy_20 rfl (lv_at hl 4 rfl) ?_
  refine lv_iload hx hb d_Ri_addCopy_21 (lv_at hl 0 rfl) ?_
  have hPc := hP.sub (ws' := [(ot, .inr (1, [.ref ota, .int otn])), (ota, .inl (cJ, 114, .inr (.inl otf)))]) [2, 3] rfl
  refine vp_callSl (va_Run.run (va_runV (As := [.int ix, .int 4]) (rest := [.int 4, .int r_1, .ref ri]) ⟨hx, hb, hml, hown, hts⟩ (c_Ri_at l dC dI cJ cI ot ota otn otf ix 4) (cwV 2 hts (gd_V wd_134 wd_135 wd_5 wd_35 wd_136) rfl rfl rfl (by decide +kernel) ⟨Nat.le_of_ble_eq_true rfl, Nat.le_of_ble_eq_true rfl⟩) ⟨fb_ro, va_recv hK hPc (ci := 1) (q0 := 0) rfl rfl, pre_ro hK hN hPc⟩ rfl rfl hl.1 rfl (lv_room (Nat.le_of_ble_eq_true rfl)) d_Ri_addCopy_23 ⟨Nat.le_of_ble_eq_true rfl, Nat.le_of_ble_eq_true rfl⟩)) (fun r_11 er_11 => ?_)
  have er_11 : r_11 = f_Ri_at otn otf ix 4 := er_11
  have hPc := hP.sub (ws' := [(ri, .inr (1, [.ref ria, .int (f_Ri_addRow_0_1 rin)])), (ria, .inl (cJ, 114, .inr (.inl (f_Ri_put_1 (f_Ri_addRow_0_1 rin) (f_Ri_put_1 (f_Ri_addRow_0_1 rin) (f_Ri_put_1 (f_Ri_addRow_0_1 rin) (f_Ri_put_1 (f_Ri_addRow_0_1 rin) rif r_1 0 r_3) r_1 1 r_5) r_1 2 r_7) r_1 3 r_9))))]) [0, 1] rfl
  have hDc := hD.sub (ws' := [(ri, .inr (1, [.ref ria, .int (f_Ri_addRow_0_1 rin)])), (ria, .inl (cJ, 114, .inr (.inl (f_Ri_put_1 (f_Ri_addRow_0_1 rin) (f_Ri_put_1 (f_Ri_addRow_0_1 rin) (f_Ri_put_1 (f_Ri_addRow_0_1 rin) (f_Ri_put_1 (f_Ri_addRow_0_1 rin) rif r_1 0 r_3) r_1 1 r_5) r_1 2 r_7) r_1 3 r_9))))]) [0, 1] (by decide) rfl
  have hFc := va_free (wc := [(ri, .inr (1, [.ref ria, .int (f_Ri_addRow_0_1 rin)])), (ria, .inl (cJ, 114, .inr (.inl (f_Ri_put_1 (f_Ri_addRow_0_1 rin) (f_Ri_put_1 (f_Ri_addRow_0_1 rin) (f_Ri_put_1 (f_Ri_addRow_0_1 rin) (f_Ri_put_1 (f_Ri_addRow_0_1 rin) rif r_1 0 r_3) r_1 1 r_5) r_1 2 r_7) r_1 3 r_9))))]) hD hS hA [0, 1] rfl
  refine va_callv (va_runV (As := [.int r_1, .int 4, .long r_11]) (rest := []) ⟨hx, hb, hml, hown, hts⟩ (c_Ri_put l dC dI cJ cI H.size ri ria (f_Ri_addRow_0_1 rin) (f_Ri_put_1 (f_Ri_addRow_0_1 rin) (f_Ri_put_1 (f_Ri_addRow_0_1 rin) (f_Ri_put_1 (f_Ri_addRow_0_1 rin) (f_Ri_put_1 (f_Ri_addRow_0_1 rin) rif r_1 0 r_3) r_1 1 r_5) r_1 2 r_7) r_1 3 r_9) r_1 4 r_11) (cwV 3 hts (gd_V wd_137 wd_112 wd_2 wd_35 wd_113) rfl rfl rfl (by decide +kernel) ⟨Nat.le_of_ble_eq_true rfl, Nat.le_of_ble_eq_true rfl⟩) ⟨fb_rw, va_recv hK hPc (ci := 1) (q0 := 0) rfl rfl, pre_rw hK hN hPc hDc⟩ rfl rfl hl.1 rfl (lv_room (Nat.le_of_ble_eq_true rfl)) d_Ri_addCopy_26 ⟨Nat.le_of_ble_eq_true rfl, Nat.le_of_ble_eq_true rfl⟩) hS (fun q _ h => hFc q h) hFc (fun u t H locs ht hvm hw hB hz1 hk1 hS => ?_)
  obtain ⟨hP1, hD1⟩ := hB
  rw [ht] at hP1
  obtain ⟨hP, hD⟩ := va_join (wr := [(ot, .inr (1, [.ref ota, .int otn])), (ota, .inl (cJ, 114, .inr (.inl otf)))]) (w1 := [(ri, .inr (1, [.ref ria, .int (f_Ri_addRow_0_1 rin)])), (ria, .inl (cJ, 114, .inr (.inl (f_Ri_put_1 (f_Ri_addRow_0_1 rin) (f_Ri_put_1 (f_Ri_addRow_0_1 rin) (f_Ri_put_1 (f_Ri_addRow_0_1 rin) (f_Ri_put_1 (f_Ri_addRow_0_1 rin) (f_Ri_put_1 (f_Ri_addRow_0_1 rin) rif r_1 0 r_3) r_1 1 r_5) r_1 2 r_7) r_1 3 r_9) r_1 4 r_11))))]) hP hD [0, 1] [2, 3] rfl rfl (by decide) (by decide) hk1 hFc hP1 hD1
  have hP : va_P (dC, dI) cls4 [(ri, .inr (1, [.ref ria, .int (f_Ri_addRow_0_1 rin)])), (ria, .inl (cJ, 114, .inr (.inl (f_Ri_put_1 (f_Ri_addRow_0_1 rin) (f_Ri_put_1 (f_Ri_addRow_0_1 rin) (f_Ri_put_1 (f_Ri_addRow_0_1 rin) (f_Ri_put_1 (f_Ri_addRow_0_1 rin) (f_Ri_put_1 (f_Ri_addRow_0_1 rin) rif r_1 0 r_3) r_1 1 r_5) r_1 2 r_7) r_1 3 r_9) r_1 4 r_11)))), (ot, .inr (1, [.ref ota, .int otn])), (ota, .inl (cJ, 114, .inr (.inl otf)))] H := hP.sub [2, 3, 0, 1] rfl
  have hD : va_D A [(ri, .inr (1, [.ref ria, .int (f_Ri_addRow_0_1 rin)])), (ria, .inl (cJ, 114, .inr (.inl (f_Ri_put_1 (f_Ri_addRow_0_1 rin) (f_Ri_put_1 (f_Ri_addRow_0_1 rin) (f_Ri_put_1 (f_Ri_addRow_0_1 rin) (f_Ri_put_1 (f_Ri_addRow_0_1 rin) (f_Ri_put_1 (f_Ri_addRow_0_1 rin) rif r_1 0 r_3) r_1 1 r_5) r_1 2 r_7) r_1 3 r_9) r_1 4 r_11)))), (ot, .inr (1, [.ref ota, .int otn])), (ota, .inl (cJ, 114, .inr (.inl otf)))] := hD.sub [2, 3, 0, 1] (by decide) rfl
  refine lv_iinc (v := 5) (lv' := [(4, .int 5), (3, .int r_1), (0, .ref ri), (1, .ref ot), (2, .int ix)]) hx hb d_Ri_addCopy_29 hl (k := 0) rfl (by decide) (by decide) rfl (fun ls hl => ?_)
  refine lv_goto (tgt := 8) hx hb d_Ri_addCopy_32 (by decide) ?_
  refine lv_iload hx hb d_Ri_addCopy_8 (lv_at hl 0 rfl) ?_
  refine lv_bipush (v := 6) hx hb d_Ri_addCopy_10 (by decide) ?_
  refine lv_icmp_ge (tgt := 35) hx hb d_Ri_addCopy_12 (by decide) (fun c_12 => absurd c_12 (by decide)) (fun _ => ?_)
  refine lv_aload_n hx hb d_Ri_addCopy_15 rfl (lv_at hl 2 rfl) ?_
  refine lv_iload_n hx hb d_Ri_addCopy_16 rfl (lv_at hl 1 rfl) ?_
  refine lv_iload hx hb d_Ri_addCopy_17 (lv_at hl 0 rfl) ?_
  refine lv_aload_n hx hb d_Ri_addCopy_19 rfl (lv_at hl 3 rfl) ?_
  refine lv_iload_n hx hb d_Ri_addCopy_20 rfl (lv_at hl 4 rfl) ?_
  refine lv_iload hx hb d_Ri_addCopy_21 (lv_at hl 0 rfl) ?_
  have hPc := hP.sub (ws' := [(ot, .inr (1, [.ref ota, .int otn])), (ota, .inl (cJ, 114, .inr (.inl otf)))]) [2, 3] rfl
  refine vp_callSl (va_Run.run (va_runV (As := [.int ix, .int 5]) (rest := [.int 5, .int r_1, .ref ri]) ⟨hx, hb, hml, hown, hts⟩ (c_Ri_at l dC dI cJ cI ot ota otn otf ix 5) (cwV 2 hts (gd_V wd_134 wd_135 wd_5 wd_35 wd_136) rfl rfl rfl (by decide +kernel) ⟨Nat.le_of_ble_eq_true rfl, Nat.le_of_ble_eq_true rfl⟩) ⟨fb_ro, va_recv hK hPc (ci := 1) (q0 := 0) rfl rfl, pre_ro hK hN hPc⟩ rfl rfl hl.1 rfl (lv_room (Nat.le_of_ble_eq_true rfl)) d_Ri_addCopy_23 ⟨Nat.le_of_ble_eq_true rfl, Nat.le_of_ble_eq_true rfl⟩)) (fun r_13 er_13 => ?_)
  have er_13 : r_13 = f_Ri_at otn otf ix 5 := er_13
  have hPc := hP.sub (ws' := [(ri, .inr (1, [.ref ria, .int (f_Ri_addRow_0_1 rin)])), (ria, .inl (cJ, 114, .inr (.inl (f_Ri_put_1 (f_Ri_addRow_0_1 rin) (f_Ri_put_1 (f_Ri_addRow_0_1 rin) (f_Ri_put_1 (f_Ri_addRow_0_1 rin) (f_Ri_put_1 (f_Ri_addRow_0_1 rin) (f_Ri_put_1 (f_Ri_addRow_0_1 rin) rif r_1 0 r_3) r_1 1 r_5) r_1 2 r_7) r_1 3 r_9) r_1 4 r_11))))]) [0, 1] rfl
  have hDc := hD.sub (ws' := [(ri, .inr (1, [.ref ria, .int (f_Ri_addRow_0_1 rin)])), (ria, .inl (cJ, 114, .inr (.inl (f_Ri_put_1 (f_Ri_addRow_0_1 rin) (f_Ri_put_1 (f_Ri_addRow_0_1 rin) (f_Ri_put_1 (f_Ri_addRow_0_1 rin) (f_Ri_put_1 (f_Ri_addRow_0_1 rin) (f_Ri_put_1 (f_Ri_addRow_0_1 rin) rif r_1 0 r_3) r_1 1 r_5) r_1 2 r_7) r_1 3 r_9) r_1 4 r_11))))]) [0, 1] (by decide) rfl
  have hFc := va_free (wc := [(ri, .inr (1, [.ref ria, .int (f_Ri_addRow_0_1 rin)])), (ria, .inl (cJ, 114, .inr (.inl (f_Ri_put_1 (f_Ri_addRow_0_1 rin) (f_Ri_put_1 (f_Ri_addRow_0_1 rin) (f_Ri_put_1 (f_Ri_addRow_0_1 rin) (f_Ri_put_1 (f_Ri_addRow_0_1 rin) (f_Ri_put_1 (f_Ri_addRow_0_1 rin) rif r_1 0 r_3) r_1 1 r_5) r_1 2 r_7) r_1 3 r_9) r_1 4 r_11))))]) hD hS hA [0, 1] rfl
  refine va_callv (va_runV (As := [.int r_1, .int 5, .long r_13]) (rest := []) ⟨hx, hb, hml, hown, hts⟩ (c_Ri_put l dC dI cJ cI H.size ri ria (f_Ri_addRow_0_1 rin) (f_Ri_put_1 (f_Ri_addRow_0_1 rin) (f_Ri_put_1 (f_Ri_addRow_0_1 rin) (f_Ri_put_1 (f_Ri_addRow_0_1 rin) (f_Ri_put_1 (f_Ri_addRow_0_1 rin) (f_Ri_put_1 (f_Ri_addRow_0_1 rin) rif r_1 0 r_3) r_1 1 r_5) r_1 2 r_7) r_1 3 r_9) r_1 4 r_11) r_1 5 r_13) (cwV 3 hts (gd_V wd_137 wd_112 wd_2 wd_35 wd_113) rfl rfl rfl (by decide +kernel) ⟨Nat.le_of_ble_eq_true rfl, Nat.le_of_ble_eq_true rfl⟩) ⟨fb_rw, va_recv hK hPc (ci := 1) (q0 := 0) rfl rfl, pre_rw hK hN hPc hDc⟩ rfl rfl hl.1 rfl (lv_room (Nat.le_of_ble_eq_true rfl)) d_Ri_addCopy_26 ⟨Nat.le_of_ble_eq_true rfl, Nat.le_of_ble_eq_true rfl⟩) hS (fun q _ h => hFc q h) hFc (fun u t H locs ht hvm hw hB hz1 hk1 hS => ?_)
  obtain ⟨hP1, hD1⟩ := hB
  rw [ht] at hP1
  obtain ⟨hP, hD⟩ := va_join (wr := [(ot, .inr (1, [.ref ota, .int otn])), (ota, .inl (cJ, 114, .inr (.inl otf)))]) (w1 := [(ri, .inr (1, [.ref ria, .int (f_Ri_addRow_0_1 rin)])), (ria, .inl (cJ, 114, .inr (.inl (f_Ri_put_1 (f_Ri_addRow_0_1 rin) (f_Ri_put_1 (f_Ri_addRow_0_1 rin) (f_Ri_put_1 (f_Ri_addRow_0_1 rin) (f_Ri_put_1 (f_Ri_addRow_0_1 rin) (f_Ri_put_1 (f_Ri_addRow_0_1 rin) (f_Ri_put_1 (f_Ri_addRow_0_1 rin) rif r_1 0 r_3) r_1 1 r_5) r_1 2 r_7) r_1 3 r_9) r_1 4 r_11) r_1 5 r_13))))]) hP hD [0, 1] [2, 3] rfl rfl (by decide) (by decide) hk1 hFc hP1 hD1
  have hP : va_P (dC, dI) cls4 [(ri, .inr (1, [.ref ria, .int (f_Ri_addRow_0_1 rin)])), (ria, .inl (cJ, 114, .inr (.inl (f_Ri_put_1 (f_Ri_addRow_0_1 rin) (f_Ri_put_1 (f_Ri_addRow_0_1 rin) (f_Ri_put_1 (f_Ri_addRow_0_1 rin) (f_Ri_put_1 (f_Ri_addRow_0_1 rin) (f_Ri_put_1 (f_Ri_addRow_0_1 rin) (f_Ri_put_1 (f_Ri_addRow_0_1 rin) rif r_1 0 r_3) r_1 1 r_5) r_1 2 r_7) r_1 3 r_9) r_1 4 r_11) r_1 5 r_13)))), (ot, .inr (1, [.ref ota, .int otn])), (ota, .inl (cJ, 114, .inr (.inl otf)))] H := hP.sub [2, 3, 0, 1] rfl
  have hD : va_D A [(ri, .inr (1, [.ref ria, .int (f_Ri_addRow_0_1 rin)])), (ria, .inl (cJ, 114, .inr (.inl (f_Ri_put_1 (f_Ri_addRow_0_1 rin) (f_Ri_put_1 (f_Ri_addRow_0_1 rin) (f_Ri_put_1 (f_Ri_addRow_0_1 rin) (f_Ri_put_1 (f_Ri_addRow_0_1 rin) (f_Ri_put_1 (f_Ri_addRow_0_1 rin) (f_Ri_put_1 (f_Ri_addRow_0_1 rin) rif r_1 0 r_3) r_1 1 r_5) r_1 2 r_7) r_1 3 r_9) r_1 4 r_11) r_1 5 r_13)))), (ot, .inr (1, [.ref ota, .int otn])), (ota, .inl (cJ, 114, .inr (.inl otf)))] := hD.sub [2, 3, 0, 1] (by decide) rfl
  refine lv_iinc (v := 6) (lv' := [(4, .int 6), (3, .int r_1), (0, .ref ri), (1, .ref ot), (2, .int ix)]) hx hb d_Ri_addCopy_29 hl (k := 0) rfl (by decide) (by decide) rfl (fun ls hl => ?_)
  refine lv_goto (tgt := 8) hx hb d_Ri_addCopy_32 (by decide) ?_
  refine lv_iload hx hb d_Ri_addCopy_8 (lv_at hl 0 rfl) ?_
  refine lv_bipush (v := 6) hx hb d_Ri_addCopy_10 (by decide) ?_
  refine lv_icmp_ge (tgt := 35) hx hb d_Ri_addCopy_12 (by decide) (fun _ => ?_) (fun c_14 => absurd (by decide) c_14)
  subst er_1
  subst er_3
  subst er_5
  subst er_7
  subst er_9
  subst er_11
  subst er_13
  have ew_15 : f_Ri_addCopy_1 rin rif otn otf ix = f_Ri_put_1 (f_Ri_addRow_0_1 rin) (f_Ri_put_1 (f_Ri_addRow_0_1 rin) (f_Ri_put_1 (f_Ri_addRow_0_1 rin) (f_Ri_put_1 (f_Ri_addRow_0_1 rin) (f_Ri_put_1 (f_Ri_addRow_0_1 rin) (f_Ri_put_1 (f_Ri_addRow_0_1 rin) rif (f_Ri_addRow_r rin) 0 (f_Ri_at otn otf ix 0)) (f_Ri_addRow_r rin) 1 (f_Ri_at otn otf ix 1)) (f_Ri_addRow_r rin) 2 (f_Ri_at otn otf ix 2)) (f_Ri_addRow_r rin) 3 (f_Ri_at otn otf ix 3)) (f_Ri_addRow_r rin) 4 (f_Ri_at otn otf ix 4)) (f_Ri_addRow_r rin) 5 (f_Ri_at otn otf ix 5) := by rw [f_Ri_addCopy_1]
  exact W.vret hx hb hr (fun t ht hW => ⟨⟨(), rfl, trivial, by rw [ht, ew_15]; exact hP, by rw [ew_15]; exact hD⟩, hS.F ht⟩) hS.2.2 d_Ri_addCopy_35
end
section
theorem ri_at_v {n c k : Nat} {f : Nat → Int64} (hn : n ≤ 19) (hc : c < n) (hk : k < 6) : f_Ri_at (nI n) f (nI c) (nI k) = f (6 * c + k) := by
  unfold f_Ri_at
  rw [ri_has_1 hn hc, if_neg (by decide), if_neg (nI_pos (by omega)), if_neg (by rw [show (6 : Int32) = nI 6 from rfl, nI_leI (by decide) (by omega)]; omega), show (6 : Int32) = nI 6 from rfl, pk_mul, nI_add, nI_clamp (by omega), Nat.mul_comm c 6]
theorem ri_at_0 {n c : Nat} {f : Nat → Int64} (hn : n ≤ 19) (hc : c < n) : f_Ri_at (nI n) f (nI c) 0 = f (6 * c) := ri_at_v (k := 0) hn hc (by decide)
theorem ri_at_1 {n c : Nat} {f : Nat → Int64} (hn : n ≤ 19) (hc : c < n) : f_Ri_at (nI n) f (nI c) 1 = f (6 * c + 1) := ri_at_v (k := 1) hn hc (by decide)
theorem ri_at_2 {n c : Nat} {f : Nat → Int64} (hn : n ≤ 19) (hc : c < n) : f_Ri_at (nI n) f (nI c) 2 = f (6 * c + 2) := ri_at_v (k := 2) hn hc (by decide)
theorem ri_at_3 {n c : Nat} {f : Nat → Int64} (hn : n ≤ 19) (hc : c < n) : f_Ri_at (nI n) f (nI c) 3 = f (6 * c + 3) := ri_at_v (k := 3) hn hc (by decide)
theorem ri_at_4 {n c : Nat} {f : Nat → Int64} (hn : n ≤ 19) (hc : c < n) : f_Ri_at (nI n) f (nI c) 4 = f (6 * c + 4) := ri_at_v (k := 4) hn hc (by decide)
theorem ri_at_5 {n c : Nat} {f : Nat → Int64} (hn : n ≤ 19) (hc : c < n) : f_Ri_at (nI n) f (nI c) 5 = f (6 * c + 5) := ri_at_v (k := 5) hn hc (by decide)
/-- no corner there -/
theorem ri_at_no {n : Nat} {f : Nat → Int64} {wh : Int32} (hn : n ≤ 19) : f_Ri_at (nI n) f (-1) wh = 0 := by
  unfold f_Ri_at
  rw [ri_has_0 hn (Or.inl (by decide)), if_pos rfl]
theorem ri_at_wh {n : Nat} {f : Nat → Int64} {ix wh : Int32} (h : wh < 0 ∨ 6 ≤ wh) : f_Ri_at (nI n) f ix wh = 0 := by
  unfold f_Ri_at
  by_cases h1 : f_Ri_has (nI n) ix = 0
  · rw [if_pos h1]
  · rw [if_neg h1]
    by_cases h2 : wh < 0
    · rw [if_pos h2]
    · rw [if_neg h2, if_pos (h.resolve_left h2)]
theorem ri_put_v {n c k : Nat} {f : Nat → Int64} {v : Int64} (hn : n ≤ 19) (hc : c < n) (hk : k < 6) : f_Ri_put_1 (nI n) f (nI c) (nI k) v = vp_updL f (6 * c + k) v := by
  unfold f_Ri_put_1
  rw [ri_has_1 hn hc, if_neg (by decide), if_neg (nI_pos (by omega)), if_neg (by rw [show (6 : Int32) = nI 6 from rfl, nI_leI (by decide) (by omega)]; omega), show (6 : Int32) = nI 6 from rfl, pk_mul, nI_add, nI_clamp (by omega), Nat.mul_comm c 6]
theorem ri_addRow_n {n : Nat} (hn : n < 19) : f_Ri_addRow_0_1 (nI n) = nI (n + 1) ∧ f_Ri_addRow_r (nI n) = nI n := by
  unfold f_Ri_addRow_0_1 f_Ri_addRow_r
  have h : nI n < 19 := by rw [show (19 : Int32) = nI 19 from rfl, nI_ltI (by omega) (by decide)]; omega
  rw [if_pos h, if_pos h, nI_1, nI_pred]
  exact ⟨rfl, rfl⟩
/-- six numbers put into row m -/
def ri_six (f : Nat → Int64) (m : Nat) (v : Nat → Int64) : Nat → Int64 := vp_updL (vp_updL (vp_updL (vp_updL (vp_updL (vp_updL f (6 * m + 0) (v 0)) (6 * m + 1) (v 1)) (6 * m + 2) (v 2)) (6 * m + 3) (v 3)) (6 * m + 4) (v 4)) (6 * m + 5) (v 5)
theorem ri_six_eq (f : Nat → Int64) (m : Nat) (v : Nat → Int64) : ri_six f m v = pu_put f m v := by
  funext j
  unfold ri_six pu_put vp_updL
  by_cases h : j / 6 = m
  · rw [if_pos h]
    have hj : j = 6 * m + j % 6 := by omega
    have hl : j % 6 < 6 := Nat.mod_lt _ (by decide)
    generalize j % 6 = k at hj hl ⊢
    subst hj
    match k, hl with
    | 0, _ => rw [if_neg (by omega), if_neg (by omega), if_neg (by omega), if_neg (by omega), if_neg (by omega), if_pos rfl]
    | 1, _ => rw [if_neg (by omega), if_neg (by omega), if_neg (by omega), if_neg (by omega), if_pos rfl]
    | 2, _ => rw [if_neg (by omega), if_neg (by omega), if_neg (by omega), if_pos rfl]
    | 3, _ => rw [if_neg (by omega), if_neg (by omega), if_pos rfl]
    | 4, _ => rw [if_neg (by omega), if_pos rfl]
    | 5, _ => rw [if_pos rfl]
  · rw [if_neg h, if_neg (by omega), if_neg (by omega), if_neg (by omega), if_neg (by omega), if_neg (by omega), if_neg (by omega)]
theorem ri_puts {n m : Nat} {f : Nat → Int64} {a b c d e g : Int64} (v : Nat → Int64) (hn : n ≤ 19) (hm : m < n) (h0 : a = v 0) (h1 : b = v 1) (h2 : c = v 2) (h3 : d = v 3) (h4 : e = v 4) (h5 : g = v 5) :
    f_Ri_put_1 (nI n) (f_Ri_put_1 (nI n) (f_Ri_put_1 (nI n) (f_Ri_put_1 (nI n) (f_Ri_put_1 (nI n) (f_Ri_put_1 (nI n) f (nI m) 0 a) (nI m) 1 b) (nI m) 2 c) (nI m) 3 d) (nI m) 4 e) (nI m) 5 g = pu_put f m v := by
  rw [← ri_six_eq, show (0 : Int32) = nI 0 from rfl, show (1 : Int32) = nI 1 from rfl, show (2 : Int32) = nI 2 from rfl, show (3 : Int32) = nI 3 from rfl, show (4 : Int32) = nI 4 from rfl, show (5 : Int32) = nI 5 from rfl, ri_put_v hn hm (by decide), ri_put_v hn hm (by decide), ri_put_v hn hm (by decide), ri_put_v hn hm (by decide), ri_put_v hn hm (by decide), ri_put_v hn hm (by decide), h0, h1, h2, h3, h4, h5]
  rfl
end
section
def f_Fa_has (fan : Int32) (ix : Int32) : Int32 := if ix < 0 then 0 else (if fan ≤ ix then 0 else (if 17 < fan then 0 else 1))
set_option maxHeartbeats 4000000 in
set_option maxRecDepth 100000 in
theorem c_Fa_has (l : Launch) (dC : Nat → ClassId) (dI : Nat → Nat → Nat) (cJ cI : ClassId) (fa : Nat) (fas : Nat) (fat : Nat) (faa : Nat) (fan : Int32) (faS : Nat → Int32) (faT : Nat → Int32) (faA : Nat → Int32) (ix : Int32) : Met l y_Fa_has w_Fa_has ({ frames := 0, cells := 0, slots := 0, locals := 0 } : Room) (rq_ro (dC, dI) cJ cI [.ref fa, .int ix] [(fa, .inr (2, [.ref fas, .ref fat, .ref faa, .int fan])), (fas, .inl (cI, 17, .inl faS)), (fat, .inl (cI, 17, .inl faT)), (faa, .inl (cI, 17, .inl faA))]) (vp_Si (fun r => r = f_Fa_has fan ix)) 0 0 (fun _ => False) := by
  refine Met.ofW (cc := b_Fa_has) (maxL := 2) (ret := (some .boolean)) (by decide) rfl ?_
  intro p e s m args below meth c s₁ B hml hv
  obtain ⟨rfl, hP, hK, hN⟩ := hv
  have hx := B.exec
  have hb := B.bytes
  have hr := B.returns
  have hts := atoms_spec (ws := w_Fa_has) B.pre
  have hown : s.vm.findClass R_Fa = some m.cls := findClass_of_methodNamed B.named
  have hlocks := B.notSynchronized
  have hl := lv_entry ([.ref fa, .int ix]) (n := 2) (Nat.le_of_ble_eq_true rfl)
  rw [lg_entry_eq]
  generalize (lg_sl ([.ref fa, .int ix]) ++ List.replicate (2 - (lg_sl ([.ref fa, .int ix])).length) Slot.unset).toArray = ls at hl ⊢
  have hl : lv_has ls 2 [(0, .ref fa), (1, .int ix)] := hl
  refine lv_iload_n hx hb d_Fa_has_0 rfl (lv_at hl 1 rfl) ?_
  refine lv_if_lt (tgt := 25) hx hb d_Fa_has_1 (by decide) (fun c_1 => ?_) (fun c_1 => ?_)
  · have c_1 : ix < 0 := c_1
    refine lv_iconst (v := 0) hx hb d_Fa_has_25 (by decide) ?_
    exact W.zret (v := 0) hx hb hr (by decide) (fun t ht hW => ⟨_, rfl, by rw [f_Fa_has, if_pos c_1], ht⟩) (fun q h => by cases h) d_Fa_has_26
  · have c_1 : ¬ (ix < 0) := c_1
    refine lv_iload_n hx hb d_Fa_has_4 rfl (lv_at hl 1 rfl) ?_
    refine lv_aload_n hx hb d_Fa_has_5 rfl (lv_at hl 0 rfl) ?_
    refine va_get (D := (dC, dI)) (ci := 2) (v := .int fan) (C := R_Fa) (T := F_Fa) (N := 4) hx hb hts (fun w h => mw (i_Fa w h)) hown hK hP 0 rfl rfl 3 (by decide) (hts _ (mw wd_75)) (fun _ h9 => h9) rfl d_Fa_has_6 ?_
    refine lv_icmp_ge (tgt := 25) hx hb d_Fa_has_9 (by decide) (fun c_2 => ?_) (fun c_2 => ?_)
    · have c_2 : fan ≤ ix := c_2
      refine lv_iconst (v := 0) hx hb d_Fa_has_25 (by decide) ?_
      exact W.zret (v := 0) hx hb hr (by decide) (fun t ht hW => ⟨_, rfl, by rw [f_Fa_has, if_neg c_1, if_pos c_2], ht⟩) (fun q h => by cases h) d_Fa_has_26
    · have c_2 : ¬ (fan ≤ ix) := c_2
      refine lv_aload_n hx hb d_Fa_has_12 rfl (lv_at hl 0 rfl) ?_
      refine va_get (D := (dC, dI)) (ci := 2) (v := .int fan) (C := R_Fa) (T := F_Fa) (N := 4) hx hb hts (fun w h => mw (i_Fa w h)) hown hK hP 0 rfl rfl 3 (by decide) (hts _ (mw wd_75)) (fun _ h9 => h9) rfl d_Fa_has_13 ?_
      refine lv_bipush (v := 17) hx hb d_Fa_has_16 (by decide) ?_
      refine lv_icmp_gt (tgt := 25) hx hb d_Fa_has_18 (by decide) (fun c_3 => ?_) (fun c_3 => ?_)
      · have c_3 : 17 < fan := c_3
        refine lv_iconst (v := 0) hx hb d_Fa_has_25 (by decide) ?_
        exact W.zret (v := 0) hx hb hr (by decide) (fun t ht hW => ⟨_, rfl, by rw [f_Fa_has, if_neg c_1, if_neg c_2, if_pos c_3], ht⟩) (fun q h => by cases h) d_Fa_has_26
      · have c_3 : ¬ (17 < fan) := c_3
        refine lv_iconst (v := 1) hx hb d_Fa_has_21 (by decide) ?_
        refine lv_goto (tgt := 26) hx hb d_Fa_has_22 (by decide) ?_
        exact W.zret (v := 1) hx hb hr (by decide) (fun t ht hW => ⟨_, rfl, by rw [f_Fa_has, if_neg c_1, if_neg c_2, if_neg c_3], ht⟩) (fun q h => by cases h) d_Fa_has_26
end
section
theorem fa_has_of {fan ix : Int32} (h : ¬ f_Fa_has fan ix = 0) : ∃ n c : Nat, fan = nI n ∧ n ≤ 17 ∧ c < n ∧ ix = nI c := by
  unfold f_Fa_has at h
  by_cases h0 : ix < 0
  · rw [if_pos h0] at h; exact absurd rfl h
  · rw [if_neg h0] at h
    by_cases h1 : fan ≤ ix
    · rw [if_pos h1] at h; exact absurd rfl h
    · rw [if_neg h1] at h
      by_cases h2 : 17 < fan
      · rw [if_pos h2] at h; exact absurd rfl h
      · obtain ⟨c, hc, rfl⟩ := nI_of h0
        have h3 : ¬ fan < 0 := fun q => h1 (by rw [Int32.le_iff_toInt_le, nI_toInt hc]; rw [Int32.lt_iff_toInt_lt, Int32.toInt_zero] at q; omega)
        obtain ⟨n, hn, rfl⟩ := nI_of h3
        rw [nI_leI hn hc] at h1
        rw [show (17 : Int32) = nI 17 from rfl, nI_ltI (by decide) hn] at h2
        exact ⟨n, c, rfl, by omega, by omega, rfl⟩
theorem fa_has {fan ix : Int32} (h : ¬ f_Fa_has fan ix = 0) : vp_in ix 17 := by
  obtain ⟨n, c, -, hn, hc, rfl⟩ := fa_has_of h
  exact vp_in_nI (by omega) (by decide)
theorem fa_in {fan : Int32} (h0 : ¬ (fan < 0)) (h1 : ¬ (17 ≤ fan)) : vp_in fan 17 := by
  obtain ⟨j, hj, rfl⟩ := ix_of (M := 17) (n := 17) rfl (by decide) h0 h1
  exact vp_in_nI hj (by decide)
theorem fa_has_1 {n c : Nat} (hn : n ≤ 17) (hc : c < n) : f_Fa_has (nI n) (nI c) = 1 := by
  unfold f_Fa_has
  rw [if_neg (nI_pos (by omega)), if_neg (by rw [nI_leI (by omega) (by omega)]; omega), if_neg (by rw [show (17 : Int32) = nI 17 from rfl, nI_ltI (by decide) (by omega)]; omega)]
theorem fa_has_0 {n : Nat} {ix : Int32} (h : ix < 0 ∨ nI n ≤ ix) : f_Fa_has (nI n) ix = 0 := by
  unfold f_Fa_has
  by_cases h0 : ix < 0
  · rw [if_pos h0]
  · rw [if_neg h0, if_pos (h.resolve_left h0)]
theorem sw_out0_3 {x : Int32} (h0 : ¬ x = 0) (h1 : ¬ x = 1) (h2 : ¬ x = 2) (h3 : ¬ x = 3) : x.toInt < 0 ∨ 3 < x.toInt := by
  have e0 : x.toInt ≠ 0 := fun q => h0 (Int32.toInt_inj.mp (by rw [q]; decide))
  have e1 : x.toInt ≠ 1 := fun q => h1 (Int32.toInt_inj.mp (by rw [q]; decide))
  have e2 : x.toInt ≠ 2 := fun q => h2 (Int32.toInt_inj.mp (by rw [q]; decide))
  have e3 : x.toInt ≠ 3 := fun q => h3 (Int32.toInt_inj.mp (by rw [q]; decide))
  omega
theorem sw_out0_2 {x : Int32} (h0 : ¬ x = 0) (h1 : ¬ x = 1) (h2 : ¬ x = 2) : x.toInt < 0 ∨ 2 < x.toInt := by
  have e0 : x.toInt ≠ 0 := fun q => h0 (Int32.toInt_inj.mp (by rw [q]; decide))
  have e1 : x.toInt ≠ 1 := fun q => h1 (Int32.toInt_inj.mp (by rw [q]; decide))
  have e2 : x.toInt ≠ 2 := fun q => h2 (Int32.toInt_inj.mp (by rw [q]; decide))
  omega
end
section
set_option maxHeartbeats 4000000 in
set_option maxRecDepth 100000 in
theorem c_Fa_clear (l : Launch) (dC : Nat → ClassId) (dI : Nat → Nat → Nat) (cJ cI : ClassId) (sz : Nat) (fa : Nat) (fas : Nat) (fat : Nat) (faa : Nat) (fan : Int32) (faS : Nat → Int32) (faT : Nat → Int32) (faA : Nat → Int32) : Met l y_Fa_clear w_Fa_clear ({ frames := 0, cells := 0, slots := 0, locals := 0 } : Room) (rq_rw (dC, dI) cJ cI sz [.ref fa] [(fa, .inr (2, [.ref fas, .ref fat, .ref faa, .int fan])), (fas, .inl (cI, 17, .inl faS)), (fat, .inl (cI, 17, .inl faT)), (faa, .inl (cI, 17, .inl faA))]) (va_Qv (fun _ : Unit => True) (rz (dC, dI) (va_A [(fa, .inr (2, [.ref fas, .ref fat, .ref faa, .int fan])), (fas, .inl (cI, 17, .inl faS)), (fat, .inl (cI, 17, .inl faT)), (faa, .inl (cI, 17, .inl faA))] sz) [(fa, .inr (2, [.ref fas, .ref fat, .ref faa, .int 0])), (fas, .inl (cI, 17, .inl faS)), (fat, .inl (cI, 17, .inl faT)), (faa, .inl (cI, 17, .inl faA))]) (va_A [(fa, .inr (2, [.ref fas, .ref fat, .ref faa, .int fan])), (fas, .inl (cI, 17, .inl faS)), (fat, .inl (cI, 17, .inl faT)), (faa, .inl (cI, 17, .inl faA))] sz)) 0 0 (va_A [(fa, .inr (2, [.ref fas, .ref fat, .ref faa, .int fan])), (fas, .inl (cI, 17, .inl faS)), (fat, .inl (cI, 17, .inl faT)), (faa, .inl (cI, 17, .inl faA))] sz) := by
  refine Met.ofW (cc := b_Fa_clear) (maxL := 1) (ret := none) (by decide) rfl ?_
  intro p e s m args below meth c s₁ B hml hv
  obtain ⟨rfl, hsz, hP, hK, hN, hD0⟩ := hv
  have hx := B.exec
  have hb := B.bytes
  have hr := B.returns
  have hts := atoms_spec (ws := w_Fa_clear) B.pre
  have hown : s.vm.findClass R_Fa = some m.cls := findClass_of_methodNamed B.named
  have hlocks := B.notSynchronized
  subst hsz
  have hD := hD0.self (sz := s.heap.size)
  generalize hAe : va_A [(fa, .inr (2, [.ref fas, .ref fat, .ref faa, .int fan])), (fas, .inl (cI, 17, .inl faS)), (fat, .inl (cI, 17, .inl faT)), (faa, .inl (cI, 17, .inl faA))] s.heap.size = A at hD ⊢
  have hA : ∀ q : Nat, s.heap.size ≤ q → A q := fun q h => by rw [← hAe]; exact Or.inr h
  have hS : va_S A s.heap s.heap [] := va_S.rf
  have hl := lv_entry ([.ref fa]) (n := 1) (Nat.le_of_ble_eq_true rfl)
  rw [lg_entry_eq]
  generalize (lg_sl ([.ref fa]) ++ List.replicate (1 - (lg_sl ([.ref fa])).length) Slot.unset).toArray = ls at hl ⊢
  have hl : lv_has ls 1 [(0, .ref fa)] := hl
  have hP : va_P (dC, dI) cls4 [(fa, .inr (2, [.ref fas, .ref fat, .ref faa, .int fan])), (fas, .inl (cI, 17, .inl faS)), (fat, .inl (cI, 17, .inl faT)), (faa, .inl (cI, 17, .inl faA))] s.heap := hP
  refine lv_aload_n hx hb d_Fa_clear_0 rfl (lv_at hl 0 rfl) ?_
  refine lv_iconst (v := 0) hx hb d_Fa_clear_1 (by decide) ?_
  refine va_put (D := (dC, dI)) (ci := 2) (v := .int 0) (ty := .int) (C := R_Fa) (T := F_Fa) (N := 4) hx hb hts (fun w h => mw (i_Fa w h)) t_Fa t_Fa_ok n_Fa hown hK hP hD hS 0 rfl rfl 3 (by decide) (hts _ (mw wd_75)) (fun _ h9 => h9) rfl (by decide +kernel) rfl rfl (Nat.le_of_ble_eq_true rfl) d_Fa_clear_2 (fun H locs hP hD hS => ?_)
  have hP : va_P (dC, dI) cls4 [(fa, .inr (2, [.ref fas, .ref fat, .ref faa, .int 0])), (fas, .inl (cI, 17, .inl faS)), (fat, .inl (cI, 17, .inl faT)), (faa, .inl (cI, 17, .inl faA))] H := hP
  have hD : va_D A [(fa, .inr (2, [.ref fas, .ref fat, .ref faa, .int 0])), (fas, .inl (cI, 17, .inl faS)), (fat, .inl (cI, 17, .inl faT)), (faa, .inl (cI, 17, .inl faA))] := hD
  exact W.vret hx hb hr (fun t ht hW => ⟨⟨(), rfl, trivial, by rw [ht]; exact hP, by exact hD⟩, hS.F ht⟩) hS.2.2 d_Fa_clear_5
def f_Fa_add_0_3 (fan : Int32) : Int32 := if fan < 0 then fan else (if 17 ≤ fan then fan else (fan + 1))
def f_Fa_add_1 (fan : Int32) (faS : Nat → Int32) (se : Int32) : Nat → Int32 := if fan < 0 then faS else (if 17 ≤ fan then faS else (upd faS fan.toNatClampNeg se))
def f_Fa_add_2 (fan : Int32) (faT : Nat → Int32) (th : Int32) : Nat → Int32 := if fan < 0 then faT else (if 17 ≤ fan then faT else (upd faT fan.toNatClampNeg th))
def f_Fa_add_3 (fan : Int32) (faA : Nat → Int32) (ar : Int64) : Nat → Int32 := if fan < 0 then faA else (if 17 ≤ fan then faA else (upd faA fan.toNatClampNeg ar.toInt32))
set_option maxHeartbeats 4000000 in
set_option maxRecDepth 100000 in
theorem c_Fa_add (l : Launch) (dC : Nat → ClassId) (dI : Nat → Nat → Nat) (cJ cI : ClassId) (sz : Nat) (fa : Nat) (fas : Nat) (fat : Nat) (faa : Nat) (fan : Int32) (faS : Nat → Int32) (faT : Nat → Int32) (faA : Nat → Int32) (se : Int32) (th : Int32) (ar : Int64) : Met l y_Fa_add w_Fa_add ({ frames := 0, cells := 0, slots := 0, locals := 0 } : Room) (rq_rw (dC, dI) cJ cI sz [.ref fa, .int se, .int th, .long ar] [(fa, .inr (2, [.ref fas, .ref fat, .ref faa, .int fan])), (fas, .inl (cI, 17, .inl faS)), (fat, .inl (cI, 17, .inl faT)), (faa, .inl (cI, 17, .inl faA))]) (va_Qv (fun _ : Unit => True) (rz (dC, dI) (va_A [(fa, .inr (2, [.ref fas, .ref fat, .ref faa, .int fan])), (fas, .inl (cI, 17, .inl faS)), (fat, .inl (cI, 17, .inl faT)), (faa, .inl (cI, 17, .inl faA))] sz) [(fa, .inr (2, [.ref fas, .ref fat, .ref faa, .int (f_Fa_add_0_3 fan)])), (fas, .inl (cI, 17, .inl (f_Fa_add_1 fan faS se))), (fat, .inl (cI, 17, .inl (f_Fa_add_2 fan faT th))), (faa, .inl (cI, 17, .inl (f_Fa_add_3 fan faA ar)))]) (va_A [(fa, .inr (2, [.ref fas, .ref fat, .ref faa, .int fan])), (fas, .inl (cI, 17, .inl faS)), (fat, .inl (cI, 17, .inl faT)), (faa, .inl (cI, 17, .inl faA))] sz)) 0 0 (va_A [(fa, .inr (2, [.ref fas, .ref fat, .ref faa, .int fan])), (fas, .inl (cI, 17, .inl faS)), (fat, .inl (cI, 17, .inl faT)), (faa, .inl (cI, 17, .inl faA))] sz) := by
  refine Met.ofW (cc := b_Fa_add) (maxL := 5) (ret := none) (by decide) rfl ?_
  intro p e s m args below meth c s₁ B hml hv
  obtain ⟨rfl, hsz, hP, hK, hN, hD0⟩ := hv
  have hx := B.exec
  have hb := B.bytes
  have hr := B.returns
  have hts := atoms_spec (ws := w_Fa_add) B.pre
  have hown : s.vm.findClass R_Fa = some m.cls := findClass_of_methodNamed B.named
  have hlocks := B.notSynchronized
  subst hsz
  have hD := hD0.self (sz := s.heap.size)
  generalize hAe : va_A [(fa, .inr (2, [.ref fas, .ref fat, .ref faa, .int fan])), (fas, .inl (cI, 17, .inl faS)), (fat, .inl (cI, 17, .inl faT)), (faa, .inl (cI, 17, .inl faA))] s.heap.size = A at hD ⊢
  have hA : ∀ q : Nat, s.heap.size ≤ q → A q := fun q h => by rw [← hAe]; exact Or.inr h
  have hS : va_S A s.heap s.heap [] := va_S.rf
  have hl := lv_entry ([.ref fa, .int se, .int th, .long ar]) (n := 5) (Nat.le_of_ble_eq_true rfl)
  rw [lg_entry_eq]
  generalize (lg_sl ([.ref fa, .int se, .int th, .long ar]) ++ List.replicate (5 - (lg_sl ([.ref fa, .int se, .int th, .long ar])).length) Slot.unset).toArray = ls at hl ⊢
  have hl : lv_has ls 5 [(0, .ref fa), (1, .int se), (2, .int th), (3, .long ar)] := hl
  have hP : va_P (dC, dI) cls4 [(fa, .inr (2, [.ref fas, .ref fat, .ref faa, .int fan])), (fas, .inl (cI, 17, .inl faS)), (fat, .inl (cI, 17, .inl faT)), (faa, .inl (cI, 17, .inl faA))] s.heap := hP
  refine lv_aload_n hx hb d_Fa_add_0 rfl (lv_at hl 0 rfl) ?_
  refine va_get (D := (dC, dI)) (ci := 2) (v := .int fan) (C := R_Fa) (T := F_Fa) (N := 4) hx hb hts (fun w h => mw (i_Fa w h)) hown hK hP 0 rfl rfl 3 (by decide) (hts _ (mw wd_75)) (fun _ h9 => h9) rfl d_Fa_add_1 ?_
  refine lv_if_lt (tgt := 57) hx hb d_Fa_add_4 (by decide) (fun c_1 => ?_) (fun c_1 => ?_)
  · have c_1 : fan < 0 := c_1
    have ew_2 : f_Fa_add_0_3 fan = fan := by rw [f_Fa_add_0_3, if_pos c_1]
    have ew_3 : f_Fa_add_1 fan faS se = faS := by rw [f_Fa_add_1, if_pos c_1]
    have ew_4 : f_Fa_add_2 fan faT th = faT := by rw [f_Fa_add_2, if_pos c_1]
    have ew_5 : f_Fa_add_3 fan faA ar = faA := by rw [f_Fa_add_3, if_pos c_1]
    exact W.vret hx hb hr (fun t ht hW => ⟨⟨(), rfl, trivial, by rw [ht, ew_2, ew_3, ew_4, ew_5]; exact hP, by rw [ew_2, ew_3, ew_4, ew_5]; exact hD⟩, hS.F ht⟩) hS.2.2 d_Fa_add_57
  · have c_1 : ¬ (fan < 0) := c_1
    refine lv_aload_n hx hb d_Fa_add_7 rfl (lv_at hl 0 rfl) ?_
    refine va_get (D := (dC, dI)) (ci := 2) (v := .int fan) (C := R_Fa) (T := F_Fa) (N := 4) hx hb hts (fun w h => mw (i_Fa w h)) hown hK hP 0 rfl rfl 3 (by decide) (hts _ (mw wd_75)) (fun _ h9 => h9) rfl d_Fa_add_8 ?_
    refine lv_bipush (v := 17) hx hb d_Fa_add_11 (by decide) ?_
    refine lv_icmp_ge (tgt := 57) hx hb d_Fa_add_13 (by decide) (fun c_6 => ?_) (fun c_6 => ?_)
    · have c_6 : 17 ≤ fan := c_6
      have ew_7 : f_Fa_add_0_3 fan = fan := by rw [f_Fa_add_0_3, if_neg c_1, if_pos c_6]
      have ew_8 : f_Fa_add_1 fan faS se = faS := by rw [f_Fa_add_1, if_neg c_1, if_pos c_6]
      have ew_9 : f_Fa_add_2 fan faT th = faT := by rw [f_Fa_add_2, if_neg c_1, if_pos c_6]
      have ew_10 : f_Fa_add_3 fan faA ar = faA := by rw [f_Fa_add_3, if_neg c_1, if_pos c_6]
      exact W.vret hx hb hr (fun t ht hW => ⟨⟨(), rfl, trivial, by rw [ht, ew_7, ew_8, ew_9, ew_10]; exact hP, by rw [ew_7, ew_8, ew_9, ew_10]; exact hD⟩, hS.F ht⟩) hS.2.2 d_Fa_add_57
    · have c_6 : ¬ (17 ≤ fan) := c_6
      refine lv_aload_n hx hb d_Fa_add_16 rfl (lv_at hl 0 rfl) ?_
      refine va_get (D := (dC, dI)) (ci := 2) (v := .ref fas) (C := R_Fa) (T := F_Fa) (N := 4) hx hb hts (fun w h => mw (i_Fa w h)) hown hK hP 0 rfl rfl 0 (by decide) (hts _ (mw wd_72)) (fun _ h9 => h9) rfl d_Fa_add_17 ?_
      refine lv_aload_n hx hb d_Fa_add_20 rfl (lv_at hl 0 rfl) ?_
      refine va_get (D := (dC, dI)) (ci := 2) (v := .int fan) (C := R_Fa) (T := F_Fa) (N := 4) hx hb hts (fun w h => mw (i_Fa w h)) hown hK hP 0 rfl rfl 3 (by decide) (hts _ (mw wd_75)) (fun _ h9 => h9) rfl d_Fa_add_21 ?_
      refine lv_iload_n hx hb d_Fa_add_24 rfl (lv_at hl 1 rfl) ?_
      have hi_12 : vp_in fan 17 := fa_in c_1 c_6
      refine va_iast hx hb hK hP hD hS 1 1 rfl rfl hi_12 d_Fa_add_25 (fun H locs hP hD hS => ?_)
      have hP : va_P (dC, dI) cls4 [(fa, .inr (2, [.ref fas, .ref fat, .ref faa, .int fan])), (fas, .inl (cI, 17, .inl (upd faS fan.toNatClampNeg se))), (fat, .inl (cI, 17, .inl faT)), (faa, .inl (cI, 17, .inl faA))] H := hP
      have hD : va_D A [(fa, .inr (2, [.ref fas, .ref fat, .ref faa, .int fan])), (fas, .inl (cI, 17, .inl (upd faS fan.toNatClampNeg se))), (fat, .inl (cI, 17, .inl faT)), (faa, .inl (cI, 17, .inl faA))] := hD
      refine lv_aload_n hx hb d_Fa_add_26 rfl (lv_at hl 0 rfl) ?_
      refine va_get (D := (dC, dI)) (ci := 2) (v := .ref fat) (C := R_Fa) (T := F_Fa) (N := 4) hx hb hts (fun w h => mw (i_Fa w h)) hown hK hP 0 rfl rfl 1 (by decide) (hts _ (mw wd_73)) (fun _ h9 => h9) rfl d_Fa_add_27 ?_
      refine lv_aload_n hx hb d_Fa_add_30 rfl (lv_at hl 0 rfl) ?_
      refine va_get (D := (dC, dI)) (ci := 2) (v := .int fan) (C := R_Fa) (T := F_Fa) (N := 4) hx hb hts (fun w h => mw (i_Fa w h)) hown hK hP 0 rfl rfl 3 (by decide) (hts _ (mw wd_75)) (fun _ h9 => h9) rfl d_Fa_add_31 ?_
      refine lv_iload_n hx hb d_Fa_add_34 rfl (lv_at hl 2 rfl) ?_
      have hi_14 : vp_in fan 17 := fa_in c_1 c_6
      refine va_iast hx hb hK hP hD hS 2 1 rfl rfl hi_14 d_Fa_add_35 (fun H locs hP hD hS => ?_)
      have hP : va_P (dC, dI) cls4 [(fa, .inr (2, [.ref fas, .ref fat, .ref faa, .int fan])), (fas, .inl (cI, 17, .inl (upd faS fan.toNatClampNeg se))), (fat, .inl (cI, 17, .inl (upd faT fan.toNatClampNeg th))), (faa, .inl (cI, 17, .inl faA))] H := hP
      have hD : va_D A [(fa, .inr (2, [.ref fas, .ref fat, .ref faa, .int fan])), (fas, .inl (cI, 17, .inl (upd faS fan.toNatClampNeg se))), (fat, .inl (cI, 17, .inl (upd faT fan.toNatClampNeg th))), (faa, .inl (cI, 17, .inl faA))] := hD
      refine lv_aload_n hx hb d_Fa_add_36 rfl (lv_at hl 0 rfl) ?_
      refine va_get (D := (dC, dI)) (ci := 2) (v := .ref faa) (C := R_Fa) (T := F_Fa) (N := 4) hx hb hts (fun w h => mw (i_Fa w h)) hown hK hP 0 rfl rfl 2 (by decide) (hts _ (mw wd_74)) (fun _ h9 => h9) rfl d_Fa_add_37 ?_
      refine lv_aload_n hx hb d_Fa_add_40 rfl (lv_at hl 0 rfl) ?_
      refine va_get (D := (dC, dI)) (ci := 2) (v := .int fan) (C := R_Fa) (T := F_Fa) (N := 4) hx hb hts (fun w h => mw (i_Fa w h)) hown hK hP 0 rfl rfl 3 (by decide) (hts _ (mw wd_75)) (fun _ h9 => h9) rfl d_Fa_add_41 ?_
      refine lv_lload_n hx hb d_Fa_add_44 rfl (lv_at hl 3 rfl) ?_
      refine lv_l2i hx hb d_Fa_add_45 rfl ?_
      refine lv_topi (fun y_15 ey_15 => ?_)
      have hi_17 : vp_in fan 17 := fa_in c_1 c_6
      refine va_iast hx hb hK hP hD hS 3 1 rfl rfl hi_17 d_Fa_add_46 (fun H locs hP hD hS => ?_)
      have hP : va_P (dC, dI) cls4 [(fa, .inr (2, [.ref fas, .ref fat, .ref faa, .int fan])), (fas, .inl (cI, 17, .inl (upd faS fan.toNatClampNeg se))), (fat, .inl (cI, 17, .inl (upd faT fan.toNatClampNeg th))), (faa, .inl (cI, 17, .inl (upd faA fan.toNatClampNeg y_15)))] H := hP
      have hD : va_D A [(fa, .inr (2, [.ref fas, .ref fat, .ref faa, .int fan])), (fas, .inl (cI, 17, .inl (upd faS fan.toNatClampNeg se))), (fat, .inl (cI, 17, .inl (upd faT fan.toNatClampNeg th))), (faa, .inl (cI, 17, .inl (upd faA fan.toNatClampNeg y_15)))] := hD
      refine lv_aload_n hx hb d_Fa_add_47 rfl (lv_at hl 0 rfl) ?_
      refine lv_dup hx hb d_Fa_add_48 rfl ?_
      refine va_get (D := (dC, dI)) (ci := 2) (v := .int fan) (C := R_Fa) (T := F_Fa) (N := 4) hx hb hts (fun w h => mw (i_Fa w h)) hown hK hP 0 rfl rfl 3 (by decide) (hts _ (mw wd_75)) (fun _ h9 => h9) rfl d_Fa_add_49 ?_
      refine lv_iconst (v := 1) hx hb d_Fa_add_52 (by decide) ?_
      refine lv_iadd hx hb d_Fa_add_53 ?_
      refine lv_topi (fun y_18 ey_18 => ?_)
      refine va_put (D := (dC, dI)) (ci := 2) (v := .int y_18) (ty := .int) (C := R_Fa) (T := F_Fa) (N := 4) hx hb hts (fun w h => mw (i_Fa w h)) t_Fa t_Fa_ok n_Fa hown hK hP hD hS 0 rfl rfl 3 (by decide) (hts _ (mw wd_75)) (fun _ h9 => h9) rfl (by decide +kernel) rfl rfl (Nat.le_of_ble_eq_true rfl) d_Fa_add_54 (fun H locs hP hD hS => ?_)
      have hP : va_P (dC, dI) cls4 [(fa, .inr (2, [.ref fas, .ref fat, .ref faa, .int y_18])), (fas, .inl (cI, 17, .inl (upd faS fan.toNatClampNeg se))), (fat, .inl (cI, 17, .inl (upd faT fan.toNatClampNeg th))), (faa, .inl (cI, 17, .inl (upd faA fan.toNatClampNeg y_15)))] H := hP
      have hD : va_D A [(fa, .inr (2, [.ref fas, .ref fat, .ref faa, .int y_18])), (fas, .inl (cI, 17, .inl (upd faS fan.toNatClampNeg se))), (fat, .inl (cI, 17, .inl (upd faT fan.toNatClampNeg th))), (faa, .inl (cI, 17, .inl (upd faA fan.toNatClampNeg y_15)))] := hD
      subst ey_15
      subst ey_18
      have ew_19 : f_Fa_add_0_3 fan = fan + 1 := by rw [f_Fa_add_0_3, if_neg c_1, if_neg c_6]
      have ew_20 : f_Fa_add_1 fan faS se = upd faS fan.toNatClampNeg se := by rw [f_Fa_add_1, if_neg c_1, if_neg c_6]
      have ew_21 : f_Fa_add_2 fan faT th = upd faT fan.toNatClampNeg th := by rw [f_Fa_add_2, if_neg c_1, if_neg c_6]
      have ew_22 : f_Fa_add_3 fan faA ar = upd faA fan.toNatClampNeg ar.toInt32 := by rw [f_Fa_add_3, if_neg c_1, if_neg c_6]
      exact W.vret hx hb hr (fun t ht hW => ⟨⟨(), rfl, trivial, by rw [ht, ew_19, ew_20, ew_21, ew_22]; exact hP, by rw [ew_19, ew_20, ew_21, ew_22]; exact hD⟩, hS.F ht⟩) hS.2.2 d_Fa_add_57
def f_Fa_corner (fan : Int32) (faS : Nat → Int32) (faT : Nat → Int32) (ix : Int32) (co : Int32) : Int32 := if (f_Fa_has fan ix) = 0 then (-1) else (if co = 0 then 0 else (if co = 1 then (faS ix.toNatClampNeg) else (if co = 2 then (faT ix.toNatClampNeg) else (-1))))
set_option maxHeartbeats 4000000 in
set_option maxRecDepth 100000 in
theorem c_Fa_corner (l : Launch) (dC : Nat → ClassId) (dI : Nat → Nat → Nat) (cJ cI : ClassId) (fa : Nat) (fas : Nat) (fat : Nat) (faa : Nat) (fan : Int32) (faS : Nat → Int32) (faT : Nat → Int32) (faA : Nat → Int32) (ix : Int32) (co : Int32) : Met l y_Fa_corner w_Fa_corner ({ frames := 1, cells := 0, slots := 0, locals := 21 } : Room) (rq_ro (dC, dI) cJ cI [.ref fa, .int ix, .int co] [(fa, .inr (2, [.ref fas, .ref fat, .ref faa, .int fan])), (fas, .inl (cI, 17, .inl faS)), (fat, .inl (cI, 17, .inl faT)), (faa, .inl (cI, 17, .inl faA))]) (vp_Si (fun r => r = f_Fa_corner fan faS faT ix co)) 0 0 (fun _ => False) := by
  refine Met.ofW (cc := b_Fa_corner) (maxL := 3) (ret := (some .int)) (by decide) rfl ?_
  intro p e s m args below meth c s₁ B hml hv
  obtain ⟨rfl, hP, hK, hN⟩ := hv
  have hx := B.exec
  have hb := B.bytes
  have hr := B.returns
  have hts := atoms_spec (ws := w_Fa_corner) B.pre
  have hown : s.vm.findClass R_Fa = some m.cls := findClass_of_methodNamed B.named
  have hlocks := B.notSynchronized
  have hl := lv_entry ([.ref fa, .int ix, .int co]) (n := 3) (Nat.le_of_ble_eq_true rfl)
  rw [lg_entry_eq]
  generalize (lg_sl ([.ref fa, .int ix, .int co]) ++ List.replicate (3 - (lg_sl ([.ref fa, .int ix, .int co])).length) Slot.unset).toArray = ls at hl ⊢
  have hl : lv_has ls 3 [(0, .ref fa), (1, .int ix), (2, .int co)] := hl
  refine lv_aload_n hx hb d_Fa_corner_0 rfl (lv_at hl 0 rfl) ?_
  refine lv_iload_n hx hb d_Fa_corner_1 rfl (lv_at hl 1 rfl) ?_
  have hPc := hP
  refine vp_callSi (va_Run.run (va_runV (As := [.int ix]) (rest := []) ⟨hx, hb, hml, hown, hts⟩ (c_Fa_has l dC dI cJ cI fa fas fat faa fan faS faT faA ix) (cwV 1 hts (gd_V wd_176 wd_177 wd_15 wd_36 wd_178) rfl rfl rfl (by decide +kernel) ⟨Nat.le_of_ble_eq_true rfl, Nat.le_of_ble_eq_true rfl⟩) ⟨fb_ro, va_recv hK hPc (ci := 2) (q0 := 0) rfl rfl, pre_ro hK hN hPc⟩ rfl rfl hl.1 rfl (lv_room (Nat.le_of_ble_eq_true rfl)) d_Fa_corner_2 ⟨Nat.le_of_ble_eq_true rfl, Nat.le_of_ble_eq_true rfl⟩)) (fun r_1 er_1 => ?_)
  have er_1 : r_1 = f_Fa_has fan ix := er_1
  refine lv_if_ne (tgt := 10) hx hb d_Fa_corner_5 (by decide) (fun c_2 => ?_) (fun c_2 => ?_)
  · have c_2 : ¬ (r_1 = 0) := c_2
    refine lv_iload_n hx hb d_Fa_corner_10 rfl (lv_at hl 2 rfl) ?_
    by_cases c_3 : co = 0
    · refine lv_tableIn (off := 25) (tgt := 36) hx hb d_Fa_corner_11 (by rw [c_3]; decide) (by rw [c_3]; decide) (by rw [c_3]; rfl) (by decide) ?_
      refine lv_iconst (v := 0) hx hb d_Fa_corner_36 (by decide) ?_
      subst er_1
      exact W.iret (v := 0) hx hb hr (fun t ht hW => ⟨_, rfl, by rw [f_Fa_corner, if_neg c_2, if_pos c_3], ht⟩) (fun q h => by cases h) d_Fa_corner_37
    by_cases c_4 : co = 1
    · refine lv_tableIn (off := 27) (tgt := 38) hx hb d_Fa_corner_11 (by rw [c_4]; decide) (by rw [c_4]; decide) (by rw [c_4]; rfl) (by decide) ?_
      refine lv_aload_n hx hb d_Fa_corner_38 rfl (lv_at hl 0 rfl) ?_
      refine va_get (D := (dC, dI)) (ci := 2) (v := .ref fas) (C := R_Fa) (T := F_Fa) (N := 4) hx hb hts (fun w h => mw (i_Fa w h)) hown hK hP 0 rfl rfl 0 (by decide) (hts _ (mw wd_72)) (fun _ h9 => h9) rfl d_Fa_corner_39 ?_
      refine lv_iload_n hx hb d_Fa_corner_42 rfl (lv_at hl 1 rfl) ?_
      have hi_6 : vp_in ix 17 := fa_has (by rw [← er_1]; exact c_2)
      refine va_iald hx hb hK hP 1 1 rfl rfl hi_6 d_Fa_corner_43 ?_
      refine lv_topi (fun y_7 ey_7 => ?_)
      subst er_1
      subst ey_7
      exact W.iret (v := faS ix.toNatClampNeg) hx hb hr (fun t ht hW => ⟨_, rfl, by rw [f_Fa_corner, if_neg c_2, if_neg c_3, if_pos c_4], ht⟩) (fun q h => by cases h) d_Fa_corner_44
    by_cases c_8 : co = 2
    · refine lv_tableIn (off := 34) (tgt := 45) hx hb d_Fa_corner_11 (by rw [c_8]; decide) (by rw [c_8]; decide) (by rw [c_8]; rfl) (by decide) ?_
      refine lv_aload_n hx hb d_Fa_corner_45 rfl (lv_at hl 0 rfl) ?_
      refine va_get (D := (dC, dI)) (ci := 2) (v := .ref fat) (C := R_Fa) (T := F_Fa) (N := 4) hx hb hts (fun w h => mw (i_Fa w h)) hown hK hP 0 rfl rfl 1 (by decide) (hts _ (mw wd_73)) (fun _ h9 => h9) rfl d_Fa_corner_46 ?_
      refine lv_iload_n hx hb d_Fa_corner_49 rfl (lv_at hl 1 rfl) ?_
      have hi_10 : vp_in ix 17 := fa_has (by rw [← er_1]; exact c_2)
      refine va_iald hx hb hK hP 2 1 rfl rfl hi_10 d_Fa_corner_50 ?_
      refine lv_topi (fun y_11 ey_11 => ?_)
      subst er_1
      subst ey_11
      exact W.iret (v := faT ix.toNatClampNeg) hx hb hr (fun t ht hW => ⟨_, rfl, by rw [f_Fa_corner, if_neg c_2, if_neg c_3, if_neg c_4, if_pos c_8], ht⟩) (fun q h => by cases h) d_Fa_corner_51
    · have hsw : co.toInt < 0 ∨ 2 < co.toInt := sw_out0_2 c_3 c_4 c_8
      refine lv_tableOut (tgt := 52) hx hb d_Fa_corner_11 hsw (by decide) ?_
      refine lv_iconst (v := (-1)) hx hb d_Fa_corner_52 (by decide) ?_
      subst er_1
      exact W.iret (v := (-1)) hx hb hr (fun t ht hW => ⟨_, rfl, by rw [f_Fa_corner, if_neg c_2, if_neg c_3, if_neg c_4, if_neg c_8], ht⟩) (fun q h => by cases h) d_Fa_corner_53
  · have c_2 : r_1 = 0 := c_2
    refine lv_iconst (v := (-1)) hx hb d_Fa_corner_8 (by decide) ?_
    subst er_1
    exact W.iret (v := (-1)) hx hb hr (fun t ht hW => ⟨_, rfl, by rw [f_Fa_corner, if_pos c_2], ht⟩) (fun q h => by cases h) d_Fa_corner_9
end
section
def f_Ma_floorDiv (xx : Int64) (yy : Int64) : Int64 := if 0 ≤ (xx ^^^ yy) then (xx / yy) else (if ((xx / yy) * yy) = xx then (xx / yy) else ((xx / yy) - 1))
set_option maxHeartbeats 4000000 in
set_option maxRecDepth 100000 in
theorem c_Ma_floorDiv (l : Launch) (dC : Nat → ClassId) (dI : Nat → Nat → Nat) (cJ cI : ClassId) (xx : Int64) (yy : Int64) (hz : ¬ yy = 0) : Met l y_Ma_floorDiv w_Ma_floorDiv ({ frames := 0, cells := 0, slots := 0, locals := 0 } : Room) (rq_ro (dC, dI) cJ cI [.long xx, .long yy] []) (vp_Sl (fun r => r = f_Ma_floorDiv xx yy)) 0 0 (fun _ => False) := by
  refine va_MetF (cc := b_Ma_floorDiv) (maxL := 6) (ret := (some .long)) (by decide +kernel) rfl ?_
  intro p e s m args below meth c s₁ B hml hv
  obtain ⟨rfl, hP, hK, hN⟩ := hv
  have hx := B.exec
  have hb := B.bytes
  have hr := B.returns
  have hts := atoms_spec (ws := w_Ma_floorDiv) B.pre
  have hown : s.vm.findClass R_Ma = some m.cls := findClass_of_methodNamed B.named
  have hlocks := B.notSynchronized
  have hl := lv_entry ([.long xx, .long yy]) (n := 6) (Nat.le_of_ble_eq_true rfl)
  rw [lg_entry_eq]
  generalize (lg_sl ([.long xx, .long yy]) ++ List.replicate (6 - (lg_sl ([.long xx, .long yy])).length) Slot.unset).toArray = ls at hl ⊢
  have hl : lv_has ls 6 [(0, .long xx), (2, .long yy)] := hl
  refine lv_lload_n hx hb d_Ma_floorDiv_0 rfl (lv_at hl 0 rfl) ?_
  refine lv_lload_n hx hb d_Ma_floorDiv_1 rfl (lv_at hl 1 rfl) ?_
  refine lv_ldiv hx hb d_Ma_floorDiv_2 hz ?_
  refine lv_topl (fun y_1 ey_1 => ?_)
  refine lv_lstore (lv' := [(4, .long y_1), (0, .long xx), (2, .long yy)]) hx hb d_Ma_floorDiv_3 hl (by decide) rfl (fun ls hl => ?_)
  refine lv_lload_n hx hb d_Ma_floorDiv_5 rfl (lv_at hl 1 rfl) ?_
  refine lv_lload_n hx hb d_Ma_floorDiv_6 rfl (lv_at hl 2 rfl) ?_
  refine lv_lxor hx hb d_Ma_floorDiv_7 ?_
  refine lv_lconst (v := 0) hx hb d_Ma_floorDiv_8 (by decide) ?_
  refine W.lcmp hx hb d_Ma_floorDiv_9 ?_
  refine lv_if_ge (tgt := 27) hx hb d_Ma_floorDiv_10 (by decide) (fun c_2 => ?_) (fun c_2 => ?_)
  · rw [lg_cmp_ge] at c_2
    have c_2 : 0 ≤ (xx ^^^ yy) := c_2
    refine lv_lload hx hb d_Ma_floorDiv_27 (lv_at hl 0 rfl) ?_
    subst ey_1
    exact W.lret (v := xx / yy) hx hb hr (fun t ht hW => ⟨_, rfl, by rw [f_Ma_floorDiv, if_pos c_2], ht⟩) (fun q h => by cases h) d_Ma_floorDiv_29
  · rw [lg_cmp_ge] at c_2
    have c_2 : ¬ (0 ≤ (xx ^^^ yy)) := c_2
    refine lv_lload hx hb d_Ma_floorDiv_13 (lv_at hl 0 rfl) ?_
    refine lv_lload_n hx hb d_Ma_floorDiv_15 rfl (lv_at hl 2 rfl) ?_
    refine lv_lmul hx hb d_Ma_floorDiv_16 ?_
    refine lv_lload_n hx hb d_Ma_floorDiv_17 rfl (lv_at hl 1 rfl) ?_
    refine W.lcmp hx hb d_Ma_floorDiv_18 ?_
    refine lv_if_eq (tgt := 27) hx hb d_Ma_floorDiv_19 (by decide) (fun c_3 => ?_) (fun c_3 => ?_)
    · rw [lg_cmp_eq] at c_3
      have c_3 : (y_1 * yy) = xx := c_3
      refine lv_lload hx hb d_Ma_floorDiv_27 (lv_at hl 0 rfl) ?_
      subst ey_1
      exact W.lret (v := xx / yy) hx hb hr (fun t ht hW => ⟨_, rfl, by rw [f_Ma_floorDiv, if_neg c_2, if_pos c_3], ht⟩) (fun q h => by cases h) d_Ma_floorDiv_29
    · rw [lg_cmp_eq] at c_3
      have c_3 : ¬ ((y_1 * yy) = xx) := c_3
      refine lv_lload hx hb d_Ma_floorDiv_22 (lv_at hl 0 rfl) ?_
      refine lv_lconst (v := 1) hx hb d_Ma_floorDiv_24 (by decide) ?_
      refine lv_lsub hx hb d_Ma_floorDiv_25 ?_
      subst ey_1
      exact W.lret (v := (xx / yy) - 1) hx hb hr (fun t ht hW => ⟨_, rfl, by rw [f_Ma_floorDiv, if_neg c_2, if_neg c_3], ht⟩) (fun q h => by cases h) d_Ma_floorDiv_26
def f_PC_div (xx : Int64) (yy : Int64) : Int64 := if yy = 0 then 0 else (f_Ma_floorDiv xx yy)
set_option maxHeartbeats 4000000 in
set_option maxRecDepth 100000 in
theorem c_PC_div (l : Launch) (dC : Nat → ClassId) (dI : Nat → Nat → Nat) (cJ cI : ClassId) (xx : Int64) (yy : Int64) : Met l y_PC_div w_PC_div ({ frames := 1, cells := 0, slots := 0, locals := 25 } : Room) (rq_ro (dC, dI) cJ cI [.long xx, .long yy] []) (vp_Sl (fun r => r = f_PC_div xx yy)) 0 0 (fun _ => False) := by
  refine Met.ofW (cc := b_PC_div) (maxL := 4) (ret := (some .long)) (by decide) rfl ?_
  intro p e s m args below meth c s₁ B hml hv
  obtain ⟨rfl, hP, hK, hN⟩ := hv
  have hx := B.exec
  have hb := B.bytes
  have hr := B.returns
  have hts := atoms_spec (ws := w_PC_div) B.pre
  have hown : s.vm.findClass R_PC = some m.cls := findClass_of_methodNamed B.named
  have hlocks := B.notSynchronized
  have hl := lv_entry ([.long xx, .long yy]) (n := 4) (Nat.le_of_ble_eq_true rfl)
  rw [lg_entry_eq]
  generalize (lg_sl ([.long xx, .long yy]) ++ List.replicate (4 - (lg_sl ([.long xx, .long yy])).length) Slot.unset).toArray = ls at hl ⊢
  have hl : lv_has ls 4 [(0, .long xx), (2, .long yy)] := hl
  refine lv_lload_n hx hb d_PC_div_0 rfl (lv_at hl 1 rfl) ?_
  refine lv_lconst (v := 0) hx hb d_PC_div_1 (by decide) ?_
  refine W.lcmp hx hb d_PC_div_2 ?_
  refine lv_if_ne (tgt := 10) hx hb d_PC_div_3 (by decide) (fun c_1 => ?_) (fun c_1 => ?_)
  · rw [lg_cmp_eq] at c_1
    have c_1 : ¬ (yy = 0) := c_1
    refine lv_lload_n hx hb d_PC_div_10 rfl (lv_at hl 0 rfl) ?_
    refine lv_lload_n hx hb d_PC_div_11 rfl (lv_at hl 1 rfl) ?_
    refine vp_callSl (va_Run.run (va_runS (As := [.long xx, .long yy]) (rest := []) ⟨hx, hb, hml, hown, hts⟩ (c_Ma_floorDiv l dC dI cJ cI xx yy c_1) (va_cwS 2 hts (gd_S wd_151 wd_152 wd_34 wd_153) rfl rfl rfl (by decide +kernel) ⟨Nat.le_of_ble_eq_true rfl, Nat.le_of_ble_eq_true rfl⟩) ⟨fb_ro, pre_ro hK hN va_nil⟩ rfl rfl hl.1 rfl (lv_room (Nat.le_of_ble_eq_true rfl)) d_PC_div_12 ⟨Nat.le_of_ble_eq_true rfl, Nat.le_of_ble_eq_true rfl⟩)) (fun r_2 er_2 => ?_)
    have er_2 : r_2 = f_Ma_floorDiv xx yy := er_2
    subst er_2
    exact W.lret (v := f_Ma_floorDiv xx yy) hx hb hr (fun t ht hW => ⟨_, rfl, by rw [f_PC_div, if_neg c_1], ht⟩) (fun q h => by cases h) d_PC_div_15
  · rw [lg_cmp_eq] at c_1
    have c_1 : yy = 0 := c_1
    refine lv_lconst (v := 0) hx hb d_PC_div_6 (by decide) ?_
    refine lv_goto (tgt := 15) hx hb d_PC_div_7 (by decide) ?_
    exact W.lret (v := 0) hx hb hr (fun t ht hW => ⟨_, rfl, by rw [f_PC_div, if_pos c_1], ht⟩) (fun q h => by cases h) d_PC_div_15
def f_PC_isPlace (va : Int32) : Int32 := if va < (-16777216) then 0 else (if 16777216 < va then 0 else 1)
set_option maxHeartbeats 4000000 in
set_option maxRecDepth 100000 in
theorem c_PC_isPlace (l : Launch) (dC : Nat → ClassId) (dI : Nat → Nat → Nat) (cJ cI : ClassId) (va : Int32) : Met l y_PC_isPlace w_PC_isPlace ({ frames := 0, cells := 0, slots := 0, locals := 0 } : Room) (rq_ro (dC, dI) cJ cI [.int va] []) (vp_Si (fun r => r = f_PC_isPlace va)) 0 0 (fun _ => False) := by
  refine Met.ofW (cc := b_PC_isPlace) (maxL := 1) (ret := (some .boolean)) (by decide) rfl ?_
  intro p e s m args below meth c s₁ B hml hv
  obtain ⟨rfl, hP, hK, hN⟩ := hv
  have hx := B.exec
  have hb := B.bytes
  have hr := B.returns
  have hts := atoms_spec (ws := w_PC_isPlace) B.pre
  have hown : s.vm.findClass R_PC = some m.cls := findClass_of_methodNamed B.named
  have hlocks := B.notSynchronized
  have hl := lv_entry ([.int va]) (n := 1) (Nat.le_of_ble_eq_true rfl)
  rw [lg_entry_eq]
  generalize (lg_sl ([.int va]) ++ List.replicate (1 - (lg_sl ([.int va])).length) Slot.unset).toArray = ls at hl ⊢
  have hl : lv_has ls 1 [(0, .int va)] := hl
  refine lv_iload_n hx hb d_PC_isPlace_0 rfl (lv_at hl 0 rfl) ?_
  refine lv_ldc hx hb hown (hts _ (mw wd_110)) d_PC_isPlace_1 ?_
  refine lv_icmp_lt (tgt := 16) hx hb d_PC_isPlace_3 (by decide) (fun c_1 => ?_) (fun c_1 => ?_)
  · have c_1 : va < (-16777216) := c_1
    refine lv_iconst (v := 0) hx hb d_PC_isPlace_16 (by decide) ?_
    exact W.zret (v := 0) hx hb hr (by decide) (fun t ht hW => ⟨_, rfl, by rw [f_PC_isPlace, if_pos c_1], ht⟩) (fun q h => by cases h) d_PC_isPlace_17
  · have c_1 : ¬ (va < (-16777216)) := c_1
    refine lv_iload_n hx hb d_PC_isPlace_6 rfl (lv_at hl 0 rfl) ?_
    refine lv_ldc hx hb hown (hts _ (mw wd_111)) d_PC_isPlace_7 ?_
    refine lv_icmp_gt (tgt := 16) hx hb d_PC_isPlace_9 (by decide) (fun c_2 => ?_) (fun c_2 => ?_)
    · have c_2 : 16777216 < va := c_2
      refine lv_iconst (v := 0) hx hb d_PC_isPlace_16 (by decide) ?_
      exact W.zret (v := 0) hx hb hr (by decide) (fun t ht hW => ⟨_, rfl, by rw [f_PC_isPlace, if_neg c_1, if_pos c_2], ht⟩) (fun q h => by cases h) d_PC_isPlace_17
    · have c_2 : ¬ (16777216 < va) := c_2
      refine lv_iconst (v := 1) hx hb d_PC_isPlace_12 (by decide) ?_
      refine lv_goto (tgt := 17) hx hb d_PC_isPlace_13 (by decide) ?_
      exact W.zret (v := 1) hx hb hr (by decide) (fun t ht hW => ⟨_, rfl, by rw [f_PC_isPlace, if_neg c_1, if_neg c_2], ht⟩) (fun q h => by cases h) d_PC_isPlace_17
def f_PC_isPaint (va : Int32) : Int32 := if va < (-131072) then 0 else (if 131072 < va then 0 else 1)
set_option maxHeartbeats 4000000 in
set_option maxRecDepth 100000 in
theorem c_PC_isPaint (l : Launch) (dC : Nat → ClassId) (dI : Nat → Nat → Nat) (cJ cI : ClassId) (va : Int32) : Met l y_PC_isPaint w_PC_isPaint ({ frames := 0, cells := 0, slots := 0, locals := 0 } : Room) (rq_ro (dC, dI) cJ cI [.int va] []) (vp_Si (fun r => r = f_PC_isPaint va)) 0 0 (fun _ => False) := by
  refine Met.ofW (cc := b_PC_isPaint) (maxL := 1) (ret := (some .boolean)) (by decide) rfl ?_
  intro p e s m args below meth c s₁ B hml hv
  obtain ⟨rfl, hP, hK, hN⟩ := hv
  have hx := B.exec
  have hb := B.bytes
  have hr := B.returns
  have hts := atoms_spec (ws := w_PC_isPaint) B.pre
  have hown : s.vm.findClass R_PC = some m.cls := findClass_of_methodNamed B.named
  have hlocks := B.notSynchronized
  have hl := lv_entry ([.int va]) (n := 1) (Nat.le_of_ble_eq_true rfl)
  rw [lg_entry_eq]
  generalize (lg_sl ([.int va]) ++ List.replicate (1 - (lg_sl ([.int va])).length) Slot.unset).toArray = ls at hl ⊢
  have hl : lv_has ls 1 [(0, .int va)] := hl
  refine lv_iload_n hx hb d_PC_isPaint_0 rfl (lv_at hl 0 rfl) ?_
  refine lv_ldc hx hb hown (hts _ (mw wd_122)) d_PC_isPaint_1 ?_
  refine lv_icmp_lt (tgt := 16) hx hb d_PC_isPaint_3 (by decide) (fun c_1 => ?_) (fun c_1 => ?_)
  · have c_1 : va < (-131072) := c_1
    refine lv_iconst (v := 0) hx hb d_PC_isPaint_16 (by decide) ?_
    exact W.zret (v := 0) hx hb hr (by decide) (fun t ht hW => ⟨_, rfl, by rw [f_PC_isPaint, if_pos c_1], ht⟩) (fun q h => by cases h) d_PC_isPaint_17
  · have c_1 : ¬ (va < (-131072)) := c_1
    refine lv_iload_n hx hb d_PC_isPaint_6 rfl (lv_at hl 0 rfl) ?_
    refine lv_ldc hx hb hown (hts _ (mw wd_123)) d_PC_isPaint_7 ?_
    refine lv_icmp_gt (tgt := 16) hx hb d_PC_isPaint_9 (by decide) (fun c_2 => ?_) (fun c_2 => ?_)
    · have c_2 : 131072 < va := c_2
      refine lv_iconst (v := 0) hx hb d_PC_isPaint_16 (by decide) ?_
      exact W.zret (v := 0) hx hb hr (by decide) (fun t ht hW => ⟨_, rfl, by rw [f_PC_isPaint, if_neg c_1, if_pos c_2], ht⟩) (fun q h => by cases h) d_PC_isPaint_17
    · have c_2 : ¬ (131072 < va) := c_2
      refine lv_iconst (v := 1) hx hb d_PC_isPaint_12 (by decide) ?_
      refine lv_goto (tgt := 17) hx hb d_PC_isPaint_13 (by decide) ?_
      exact W.zret (v := 1) hx hb hr (by decide) (fun t ht hW => ⟨_, rfl, by rw [f_PC_isPaint, if_neg c_1, if_neg c_2], ht⟩) (fun q h => by cases h) d_PC_isPaint_17
def f_PC_pictureSize (va : Int32) : Int32 := (if 8 < (if va < 48 then va else 48) then (if va < 48 then va else 48) else 8)
set_option maxHeartbeats 4000000 in
set_option maxRecDepth 100000 in
theorem c_PC_pictureSize (l : Launch) (dC : Nat → ClassId) (dI : Nat → Nat → Nat) (cJ cI : ClassId) (va : Int32) : Met l y_PC_pictureSize w_PC_pictureSize ({ frames := 1, cells := 0, slots := 0, locals := 40 } : Room) (rq_ro (dC, dI) cJ cI [.int va] []) (vp_Si (fun r => r = f_PC_pictureSize va)) 0 0 (fun _ => False) := by
  refine Met.ofW (cc := b_PC_pictureSize) (maxL := 1) (ret := (some .int)) (by decide) rfl ?_
  intro p e s m args below meth c s₁ B hml hv
  obtain ⟨rfl, hP, hK, hN⟩ := hv
  have hx := B.exec
  have hb := B.bytes
  have hr := B.returns
  have hts := atoms_spec (ws := w_PC_pictureSize) B.pre
  have hown : s.vm.findClass R_PC = some m.cls := findClass_of_methodNamed B.named
  have hlocks := B.notSynchronized
  have hl := lv_entry ([.int va]) (n := 1) (Nat.le_of_ble_eq_true rfl)
  rw [lg_entry_eq]
  generalize (lg_sl ([.int va]) ++ List.replicate (1 - (lg_sl ([.int va])).length) Slot.unset).toArray = ls at hl ⊢
  have hl : lv_has ls 1 [(0, .int va)] := hl
  refine lv_bipush (v := 8) hx hb d_PC_pictureSize_0 (by decide) ?_
  refine lv_bipush (v := 48) hx hb d_PC_pictureSize_2 (by decide) ?_
  refine lv_iload_n hx hb d_PC_pictureSize_4 rfl (lv_at hl 0 rfl) ?_
  refine va_mmin hx hb (by rw [hml]; exact hl.1.symm) hown (hts _ (mw wd_49)) (hts _ (mw wd_50)) (hts _ (mw wd_34)) (hts _ (mw wd_51)) (Nat.le_of_ble_eq_true rfl) (Nat.le_of_ble_eq_true rfl) (Nat.le_of_ble_eq_true rfl) (Nat.le_of_ble_eq_true rfl) d_PC_pictureSize_5 ?_
  refine va_mmax hx hb (by rw [hml]; exact hl.1.symm) hown (hts _ (mw wd_52)) (hts _ (mw wd_53)) (hts _ (mw wd_34)) (hts _ (mw wd_54)) (Nat.le_of_ble_eq_true rfl) (Nat.le_of_ble_eq_true rfl) (Nat.le_of_ble_eq_true rfl) (Nat.le_of_ble_eq_true rfl) d_PC_pictureSize_8 ?_
  exact W.iret (v := (if 8 < (if va < 48 then va else 48) then (if va < 48 then va else 48) else 8)) hx hb hr (fun t ht hW => ⟨_, rfl, rfl, ht⟩) (fun q h => by cases h) d_PC_pictureSize_11
def f_PC_cornerAfter (co : Int32) : Int32 := if 2 ≤ co then 0 else (co + 1)
set_option maxHeartbeats 4000000 in
set_option maxRecDepth 100000 in
theorem c_PC_cornerAfter (l : Launch) (dC : Nat → ClassId) (dI : Nat → Nat → Nat) (cJ cI : ClassId) (co : Int32) : Met l y_PC_cornerAfter w_PC_cornerAfter ({ frames := 0, cells := 0, slots := 0, locals := 0 } : Room) (rq_ro (dC, dI) cJ cI [.int co] []) (vp_Si (fun r => r = f_PC_cornerAfter co)) 0 0 (fun _ => False) := by
  refine Met.ofW (cc := b_PC_cornerAfter) (maxL := 1) (ret := (some .int)) (by decide) rfl ?_
  intro p e s m args below meth c s₁ B hml hv
  obtain ⟨rfl, hP, hK, hN⟩ := hv
  have hx := B.exec
  have hb := B.bytes
  have hr := B.returns
  have hts := atoms_spec (ws := w_PC_cornerAfter) B.pre
  have hown : s.vm.findClass R_PC = some m.cls := findClass_of_methodNamed B.named
  have hlocks := B.notSynchronized
  have hl := lv_entry ([.int co]) (n := 1) (Nat.le_of_ble_eq_true rfl)
  rw [lg_entry_eq]
  generalize (lg_sl ([.int co]) ++ List.replicate (1 - (lg_sl ([.int co])).length) Slot.unset).toArray = ls at hl ⊢
  have hl : lv_has ls 1 [(0, .int co)] := hl
  refine lv_iload_n hx hb d_PC_cornerAfter_0 rfl (lv_at hl 0 rfl) ?_
  refine lv_iconst (v := 2) hx hb d_PC_cornerAfter_1 (by decide) ?_
  refine lv_icmp_ge (tgt := 11) hx hb d_PC_cornerAfter_2 (by decide) (fun c_1 => ?_) (fun c_1 => ?_)
  · have c_1 : 2 ≤ co := c_1
    refine lv_iconst (v := 0) hx hb d_PC_cornerAfter_11 (by decide) ?_
    exact W.iret (v := 0) hx hb hr (fun t ht hW => ⟨_, rfl, by rw [f_PC_cornerAfter, if_pos c_1], ht⟩) (fun q h => by cases h) d_PC_cornerAfter_12
  · have c_1 : ¬ (2 ≤ co) := c_1
    refine lv_iload_n hx hb d_PC_cornerAfter_5 rfl (lv_at hl 0 rfl) ?_
    refine lv_iconst (v := 1) hx hb d_PC_cornerAfter_6 (by decide) ?_
    refine lv_iadd hx hb d_PC_cornerAfter_7 ?_
    refine lv_goto (tgt := 12) hx hb d_PC_cornerAfter_8 (by decide) ?_
    exact W.iret (v := co + 1) hx hb hr (fun t ht hW => ⟨_, rfl, by rw [f_PC_cornerAfter, if_neg c_1], ht⟩) (fun q h => by cases h) d_PC_cornerAfter_12
def f_PC_middle (va : Int32) : Int64 := (16 * va.toInt64) + 8
set_option maxHeartbeats 4000000 in
set_option maxRecDepth 100000 in
theorem c_PC_middle (l : Launch) (dC : Nat → ClassId) (dI : Nat → Nat → Nat) (cJ cI : ClassId) (va : Int32) : Met l y_PC_middle w_PC_middle ({ frames := 0, cells := 0, slots := 0, locals := 0 } : Room) (rq_ro (dC, dI) cJ cI [.int va] []) (vp_Sl (fun r => r = f_PC_middle va)) 0 0 (fun _ => False) := by
  refine Met.ofW (cc := b_PC_middle) (maxL := 1) (ret := (some .long)) (by decide) rfl ?_
  intro p e s m args below meth c s₁ B hml hv
  obtain ⟨rfl, hP, hK, hN⟩ := hv
  have hx := B.exec
  have hb := B.bytes
  have hr := B.returns
  have hts := atoms_spec (ws := w_PC_middle) B.pre
  have hown : s.vm.findClass R_PC = some m.cls := findClass_of_methodNamed B.named
  have hlocks := B.notSynchronized
  have hl := lv_entry ([.int va]) (n := 1) (Nat.le_of_ble_eq_true rfl)
  rw [lg_entry_eq]
  generalize (lg_sl ([.int va]) ++ List.replicate (1 - (lg_sl ([.int va])).length) Slot.unset).toArray = ls at hl ⊢
  have hl : lv_has ls 1 [(0, .int va)] := hl
  refine lv_ldc2 hx hb hown (hts _ (mw wd_157)) d_PC_middle_0 ?_
  refine lv_iload_n hx hb d_PC_middle_3 rfl (lv_at hl 0 rfl) ?_
  refine lv_i2l hx hb d_PC_middle_4 rfl ?_
  refine lv_lmul hx hb d_PC_middle_5 ?_
  refine lv_ldc2 hx hb hown (hts _ (mw wd_158)) d_PC_middle_6 ?_
  refine lv_ladd hx hb d_PC_middle_9 ?_
  exact W.lret (v := (16 * va.toInt64) + 8) hx hb hr (fun t ht hW => ⟨_, rfl, rfl, ht⟩) (fun q h => by cases h) d_PC_middle_10
end
section
def f_PC_isPixel (wi : Int32) (hi : Int32) (xx : Int32) (yy : Int32) : Int32 := if xx < 0 then 0 else (if wi ≤ xx then 0 else (if yy < 0 then 0 else (if hi ≤ yy then 0 else 1)))
set_option maxHeartbeats 4000000 in
set_option maxRecDepth 100000 in
theorem c_PC_isPixel (l : Launch) (dC : Nat → ClassId) (dI : Nat → Nat → Nat) (cJ cI : ClassId) (ob : Nat) (wi : Int32) (hi : Int32) (fo : Int32) (gi : Nat) (gia : Nat) (gin : Int32) (gif : Nat → Int64) (ke : Nat) (kea : Nat) (ken : Int32) (kef : Nat → Int64) (sp : Nat) (spa : Nat) (spn : Int32) (spf : Nat → Int64) (pi : Nat) (pia : Nat) (pin : Int32) (pif : Nat → Int64) (fa : Nat) (fas : Nat) (fat : Nat) (faa : Nat) (fan : Int32) (faS : Nat → Int32) (faT : Nat → Int32) (faA : Nat → Int32) (xx : Int32) (yy : Int32) : Met l y_PC_isPixel w_PC_isPixel ({ frames := 0, cells := 0, slots := 0, locals := 0 } : Room) (rq_ro (dC, dI) cJ cI [.ref ob, .int xx, .int yy] [(ob, .inr (0, [.int wi, .int hi, .int fo, .ref gi, .ref ke, .ref sp, .ref pi, .ref fa])), (gi, .inr (1, [.ref gia, .int gin])), (gia, .inl (cJ, 114, .inr (.inl gif))), (ke, .inr (1, [.ref kea, .int ken])), (kea, .inl (cJ, 114, .inr (.inl kef))), (sp, .inr (1, [.ref spa, .int spn])), (spa, .inl (cJ, 114, .inr (.inl spf))), (pi, .inr (1, [.ref pia, .int pin])), (pia, .inl (cJ, 114, .inr (.inl pif))), (fa, .inr (2, [.ref fas, .ref fat, .ref faa, .int fan])), (fas, .inl (cI, 17, .inl faS)), (fat, .inl (cI, 17, .inl faT)), (faa, .inl (cI, 17, .inl faA))]) (vp_Si (fun r => r = f_PC_isPixel wi hi xx yy)) 0 0 (fun _ => False) := by
  refine Met.ofW (cc := b_PC_isPixel) (maxL := 3) (ret := (some .boolean)) (by decide) rfl ?_
  intro p e s m args below meth c s₁ B hml hv
  obtain ⟨rfl, hP, hK, hN⟩ := hv
  have hx := B.exec
  have hb := B.bytes
  have hr := B.returns
  have hts := atoms_spec (ws := w_PC_isPixel) B.pre
  have hown : s.vm.findClass R_PC = some m.cls := findClass_of_methodNamed B.named
  have hlocks := B.notSynchronized
  have hl := lv_entry ([.ref ob, .int xx, .int yy]) (n := 3) (Nat.le_of_ble_eq_true rfl)
  rw [lg_entry_eq]
  generalize (lg_sl ([.ref ob, .int xx, .int yy]) ++ List.replicate (3 - (lg_sl ([.ref ob, .int xx, .int yy])).length) Slot.unset).toArray = ls at hl ⊢
  have hl : lv_has ls 3 [(0, .ref ob), (1, .int xx), (2, .int yy)] := hl
  refine lv_iload_n hx hb d_PC_isPixel_0 rfl (lv_at hl 1 rfl) ?_
  refine lv_if_lt (tgt := 28) hx hb d_PC_isPixel_1 (by decide) (fun c_1 => ?_) (fun c_1 => ?_)
  · have c_1 : xx < 0 := c_1
    refine lv_iconst (v := 0) hx hb d_PC_isPixel_28 (by decide) ?_
    exact W.zret (v := 0) hx hb hr (by decide) (fun t ht hW => ⟨_, rfl, by rw [f_PC_isPixel, if_pos c_1], ht⟩) (fun q h => by cases h) d_PC_isPixel_29
  · have c_1 : ¬ (xx < 0) := c_1
    refine lv_iload_n hx hb d_PC_isPixel_4 rfl (lv_at hl 1 rfl) ?_
    refine lv_aload_n hx hb d_PC_isPixel_5 rfl (lv_at hl 0 rfl) ?_
    refine va_get (D := (dC, dI)) (ci := 0) (v := .int wi) (C := R_PC) (T := F_PC) (N := 8) hx hb hts (fun w h => mw (i_PC w h)) hown hK hP 0 rfl rfl 0 (by decide) (hts _ (mw wd_81)) (fun _ h9 => h9) rfl d_PC_isPixel_6 ?_
    refine lv_icmp_ge (tgt := 28) hx hb d_PC_isPixel_9 (by decide) (fun c_2 => ?_) (fun c_2 => ?_)
    · have c_2 : wi ≤ xx := c_2
      refine lv_iconst (v := 0) hx hb d_PC_isPixel_28 (by decide) ?_
      exact W.zret (v := 0) hx hb hr (by decide) (fun t ht hW => ⟨_, rfl, by rw [f_PC_isPixel, if_neg c_1, if_pos c_2], ht⟩) (fun q h => by cases h) d_PC_isPixel_29
    · have c_2 : ¬ (wi ≤ xx) := c_2
      refine lv_iload_n hx hb d_PC_isPixel_12 rfl (lv_at hl 2 rfl) ?_
      refine lv_if_lt (tgt := 28) hx hb d_PC_isPixel_13 (by decide) (fun c_3 => ?_) (fun c_3 => ?_)
      · have c_3 : yy < 0 := c_3
        refine lv_iconst (v := 0) hx hb d_PC_isPixel_28 (by decide) ?_
        exact W.zret (v := 0) hx hb hr (by decide) (fun t ht hW => ⟨_, rfl, by rw [f_PC_isPixel, if_neg c_1, if_neg c_2, if_pos c_3], ht⟩) (fun q h => by cases h) d_PC_isPixel_29
      · have c_3 : ¬ (yy < 0) := c_3
        refine lv_iload_n hx hb d_PC_isPixel_16 rfl (lv_at hl 2 rfl) ?_
        refine lv_aload_n hx hb d_PC_isPixel_17 rfl (lv_at hl 0 rfl) ?_
        refine va_get (D := (dC, dI)) (ci := 0) (v := .int hi) (C := R_PC) (T := F_PC) (N := 8) hx hb hts (fun w h => mw (i_PC w h)) hown hK hP 0 rfl rfl 1 (by decide) (hts _ (mw wd_82)) (fun _ h9 => h9) rfl d_PC_isPixel_18 ?_
        refine lv_icmp_ge (tgt := 28) hx hb d_PC_isPixel_21 (by decide) (fun c_4 => ?_) (fun c_4 => ?_)
        · have c_4 : hi ≤ yy := c_4
          refine lv_iconst (v := 0) hx hb d_PC_isPixel_28 (by decide) ?_
          exact W.zret (v := 0) hx hb hr (by decide) (fun t ht hW => ⟨_, rfl, by rw [f_PC_isPixel, if_neg c_1, if_neg c_2, if_neg c_3, if_pos c_4], ht⟩) (fun q h => by cases h) d_PC_isPixel_29
        · have c_4 : ¬ (hi ≤ yy) := c_4
          refine lv_iconst (v := 1) hx hb d_PC_isPixel_24 (by decide) ?_
          refine lv_goto (tgt := 29) hx hb d_PC_isPixel_25 (by decide) ?_
          exact W.zret (v := 1) hx hb hr (by decide) (fun t ht hW => ⟨_, rfl, by rw [f_PC_isPixel, if_neg c_1, if_neg c_2, if_neg c_3, if_neg c_4], ht⟩) (fun q h => by cases h) d_PC_isPixel_29
def f_PC_sideNumber (wi : Int32) (hi : Int32) (fo : Int32) (ken : Int32) (kef : Nat → Int64) (ix : Int32) (sd : Int32) : Int64 := if sd = 0 then ((f_Ri_at ken kef ix 2) - 4096) else (if sd = 1 then ((fo.toInt64 * (f_Ri_at ken kef ix 0)) + (wi.toInt64 * (f_Ri_at ken kef ix 2))) else (if sd = 2 then ((wi.toInt64 * (f_Ri_at ken kef ix 2)) - (fo.toInt64 * (f_Ri_at ken kef ix 0))) else (if sd = 3 then ((fo.toInt64 * (f_Ri_at ken kef ix 1)) + (hi.toInt64 * (f_Ri_at ken kef ix 2))) else ((hi.toInt64 * (f_Ri_at ken kef ix 2)) - (fo.toInt64 * (f_Ri_at ken kef ix 1))))))
set_option maxHeartbeats 4000000 in
set_option maxRecDepth 100000 in
theorem c_PC_sideNumber (l : Launch) (dC : Nat → ClassId) (dI : Nat → Nat → Nat) (cJ cI : ClassId) (ob : Nat) (wi : Int32) (hi : Int32) (fo : Int32) (gi : Nat) (gia : Nat) (gin : Int32) (gif : Nat → Int64) (ke : Nat) (kea : Nat) (ken : Int32) (kef : Nat → Int64) (sp : Nat) (spa : Nat) (spn : Int32) (spf : Nat → Int64) (pi : Nat) (pia : Nat) (pin : Int32) (pif : Nat → Int64) (fa : Nat) (fas : Nat) (fat : Nat) (faa : Nat) (fan : Int32) (faS : Nat → Int32) (faT : Nat → Int32) (faA : Nat → Int32) (ix : Int32) (sd : Int32) : Met l y_PC_sideNumber w_PC_sideNumber ({ frames := 2, cells := 0, slots := 0, locals := 43 } : Room) (rq_ro (dC, dI) cJ cI [.ref ob, .int ix, .int sd] [(ob, .inr (0, [.int wi, .int hi, .int fo, .ref gi, .ref ke, .ref sp, .ref pi, .ref fa])), (gi, .inr (1, [.ref gia, .int gin])), (gia, .inl (cJ, 114, .inr (.inl gif))), (ke, .inr (1, [.ref kea, .int ken])), (kea, .inl (cJ, 114, .inr (.inl kef))), (sp, .inr (1, [.ref spa, .int spn])), (spa, .inl (cJ, 114, .inr (.inl spf))), (pi, .inr (1, [.ref pia, .int pin])), (pia, .inl (cJ, 114, .inr (.inl pif))), (fa, .inr (2, [.ref fas, .ref fat, .ref faa, .int fan])), (fas, .inl (cI, 17, .inl faS)), (fat, .inl (cI, 17, .inl faT)), (faa, .inl (cI, 17, .inl faA))]) (vp_Sl (fun r => r = f_PC_sideNumber wi hi fo ken kef ix sd)) 0 0 (fun _ => False) := by
  refine Met.ofW (cc := b_PC_sideNumber) (maxL := 9) (ret := (some .long)) (by decide) rfl ?_
  intro p e s m args below meth c s₁ B hml hv
  obtain ⟨rfl, hP, hK, hN⟩ := hv
  have hx := B.exec
  have hb := B.bytes
  have hr := B.returns
  have hts := atoms_spec (ws := w_PC_sideNumber) B.pre
  have hown : s.vm.findClass R_PC = some m.cls := findClass_of_methodNamed B.named
  have hlocks := B.notSynchronized
  have hl := lv_entry ([.ref ob, .int ix, .int sd]) (n := 9) (Nat.le_of_ble_eq_true rfl)
  rw [lg_entry_eq]
  generalize (lg_sl ([.ref ob, .int ix, .int sd]) ++ List.replicate (9 - (lg_sl ([.ref ob, .int ix, .int sd])).length) Slot.unset).toArray = ls at hl ⊢
  have hl : lv_has ls 9 [(0, .ref ob), (1, .int ix), (2, .int sd)] := hl
  refine lv_aload_n hx hb d_PC_sideNumber_0 rfl (lv_at hl 0 rfl) ?_
  refine va_get (D := (dC, dI)) (ci := 0) (v := .int fo) (C := R_PC) (T := F_PC) (N := 8) hx hb hts (fun w h => mw (i_PC w h)) hown hK hP 0 rfl rfl 2 (by decide) (hts _ (mw wd_83)) (fun _ h9 => h9) rfl d_PC_sideNumber_1 ?_
  refine lv_i2l hx hb d_PC_sideNumber_4 rfl ?_
  refine lv_aload_n hx hb d_PC_sideNumber_5 rfl (lv_at hl 0 rfl) ?_
  refine va_get (D := (dC, dI)) (ci := 0) (v := .ref ke) (C := R_PC) (T := F_PC) (N := 8) hx hb hts (fun w h => mw (i_PC w h)) hown hK hP 0 rfl rfl 4 (by decide) (hts _ (mw wd_85)) (fun _ h9 => h9) rfl d_PC_sideNumber_6 ?_
  refine lv_iload_n hx hb d_PC_sideNumber_9 rfl (lv_at hl 1 rfl) ?_
  refine lv_iconst (v := 0) hx hb d_PC_sideNumber_10 (by decide) ?_
  have hPc := hP.sub (ws' := [(ke, .inr (1, [.ref kea, .int ken])), (kea, .inl (cJ, 114, .inr (.inl kef)))]) [3, 4] rfl
  refine vp_callSl (va_Run.run (va_runVN (As := [.int ix, .int 0]) (rest := [.long fo.toInt64]) ⟨hx, hb, hml, hown, hts⟩ (c_Ri_at l dC dI cJ cI ke kea ken kef ix 0) (⟨va_cnB 2 hts (gd_0 wd_136) rfl rfl rfl (hN _ nw_10) (hts _ (mw wd_35)) (by decide +kernel) ⟨Nat.le_of_ble_eq_true rfl, Nat.le_of_ble_eq_true rfl⟩, (hts _ (mw wd_135)), (hts _ (mw wd_5))⟩) ⟨fb_ro, va_recv hK hPc (ci := 1) (q0 := 0) rfl rfl, pre_ro hK hN hPc⟩ rfl rfl hl.1 rfl (lv_room (Nat.le_of_ble_eq_true rfl)) d_PC_sideNumber_11 ⟨Nat.le_of_ble_eq_true rfl, Nat.le_of_ble_eq_true rfl⟩)) (fun r_1 er_1 => ?_)
  have er_1 : r_1 = f_Ri_at ken kef ix 0 := er_1
  refine lv_lmul hx hb d_PC_sideNumber_14 ?_
  refine lv_topl (fun y_2 ey_2 => ?_)
  refine lv_lstore_n (lv' := [(3, .long y_2), (0, .ref ob), (1, .int ix), (2, .int sd)]) hx hb d_PC_sideNumber_15 rfl hl (by decide) rfl (fun ls hl => ?_)
  refine lv_aload_n hx hb d_PC_sideNumber_16 rfl (lv_at hl 1 rfl) ?_
  refine va_get (D := (dC, dI)) (ci := 0) (v := .int fo) (C := R_PC) (T := F_PC) (N := 8) hx hb hts (fun w h => mw (i_PC w h)) hown hK hP 0 rfl rfl 2 (by decide) (hts _ (mw wd_83)) (fun _ h9 => h9) rfl d_PC_sideNumber_17 ?_
  refine lv_i2l hx hb d_PC_sideNumber_20 rfl ?_
  refine lv_aload_n hx hb d_PC_sideNumber_21 rfl (lv_at hl 1 rfl) ?_
  refine va_get (D := (dC, dI)) (ci := 0) (v := .ref ke) (C := R_PC) (T := F_PC) (N := 8) hx hb hts (fun w h => mw (i_PC w h)) hown hK hP 0 rfl rfl 4 (by decide) (hts _ (mw wd_85)) (fun _ h9 => h9) rfl d_PC_sideNumber_22 ?_
  refine lv_iload_n hx hb d_PC_sideNumber_25 rfl (lv_at hl 2 rfl) ?_
  refine lv_iconst (v := 1) hx hb d_PC_sideNumber_26 (by decide) ?_
  have hPc := hP.sub (ws' := [(ke, .inr (1, [.ref kea, .int ken])), (kea, .inl (cJ, 114, .inr (.inl kef)))]) [3, 4] rfl
  refine vp_callSl (va_Run.run (va_runVN (As := [.int ix, .int 1]) (rest := [.long fo.toInt64]) ⟨hx, hb, hml, hown, hts⟩ (c_Ri_at l dC dI cJ cI ke kea ken kef ix 1) (⟨va_cnB 2 hts (gd_0 wd_136) rfl rfl rfl (hN _ nw_10) (hts _ (mw wd_35)) (by decide +kernel) ⟨Nat.le_of_ble_eq_true rfl, Nat.le_of_ble_eq_true rfl⟩, (hts _ (mw wd_135)), (hts _ (mw wd_5))⟩) ⟨fb_ro, va_recv hK hPc (ci := 1) (q0 := 0) rfl rfl, pre_ro hK hN hPc⟩ rfl rfl hl.1 rfl (lv_room (Nat.le_of_ble_eq_true rfl)) d_PC_sideNumber_27 ⟨Nat.le_of_ble_eq_true rfl, Nat.le_of_ble_eq_true rfl⟩)) (fun r_3 er_3 => ?_)
  have er_3 : r_3 = f_Ri_at ken kef ix 1 := er_3
  refine lv_lmul hx hb d_PC_sideNumber_30 ?_
  refine lv_topl (fun y_4 ey_4 => ?_)
  refine lv_lstore (lv' := [(5, .long y_4), (3, .long y_2), (0, .ref ob), (1, .int ix), (2, .int sd)]) hx hb d_PC_sideNumber_31 hl (by decide) rfl (fun ls hl => ?_)
  refine lv_aload_n hx hb d_PC_sideNumber_33 rfl (lv_at hl 2 rfl) ?_
  refine va_get (D := (dC, dI)) (ci := 0) (v := .ref ke) (C := R_PC) (T := F_PC) (N := 8) hx hb hts (fun w h => mw (i_PC w h)) hown hK hP 0 rfl rfl 4 (by decide) (hts _ (mw wd_85)) (fun _ h9 => h9) rfl d_PC_sideNumber_34 ?_
  refine lv_iload_n hx hb d_PC_sideNumber_37 rfl (lv_at hl 3 rfl) ?_
  refine lv_iconst (v := 2) hx hb d_PC_sideNumber_38 (by decide) ?_
  have hPc := hP.sub (ws' := [(ke, .inr (1, [.ref kea, .int ken])), (kea, .inl (cJ, 114, .inr (.inl kef)))]) [3, 4] rfl
  refine vp_callSl (va_Run.run (va_runVN (As := [.int ix, .int 2]) (rest := []) ⟨hx, hb, hml, hown, hts⟩ (c_Ri_at l dC dI cJ cI ke kea ken kef ix 2) (⟨va_cnB 2 hts (gd_0 wd_136) rfl rfl rfl (hN _ nw_10) (hts _ (mw wd_35)) (by decide +kernel) ⟨Nat.le_of_ble_eq_true rfl, Nat.le_of_ble_eq_true rfl⟩, (hts _ (mw wd_135)), (hts _ (mw wd_5))⟩) ⟨fb_ro, va_recv hK hPc (ci := 1) (q0 := 0) rfl rfl, pre_ro hK hN hPc⟩ rfl rfl hl.1 rfl (lv_room (Nat.le_of_ble_eq_true rfl)) d_PC_sideNumber_39 ⟨Nat.le_of_ble_eq_true rfl, Nat.le_of_ble_eq_true rfl⟩)) (fun r_5 er_5 => ?_)
  have er_5 : r_5 = f_Ri_at ken kef ix 2 := er_5
  refine lv_lstore (lv' := [(7, .long r_5), (5, .long y_4), (3, .long y_2), (0, .ref ob), (1, .int ix), (2, .int sd)]) hx hb d_PC_sideNumber_42 hl (by decide) rfl (fun ls hl => ?_)
  refine lv_iload_n hx hb d_PC_sideNumber_44 rfl (lv_at hl 5 rfl) ?_
  by_cases c_6 : sd = 0
  · refine lv_tableIn (off := 31) (tgt := 76) hx hb d_PC_sideNumber_45 (by rw [c_6]; decide) (by rw [c_6]; decide) (by rw [c_6]; rfl) (by decide) ?_
    refine lv_lload hx hb d_PC_sideNumber_76 (lv_at hl 0 rfl) ?_
    refine lv_ldc2 hx hb hown (hts _ (mw wd_144)) d_PC_sideNumber_78 ?_
    refine lv_lsub hx hb d_PC_sideNumber_81 ?_
    subst er_1
    subst ey_2
    subst er_3
    subst ey_4
    subst er_5
    exact W.lret (v := (f_Ri_at ken kef ix 2) - 4096) hx hb hr (fun t ht hW => ⟨_, rfl, by rw [f_PC_sideNumber, if_pos c_6], ht⟩) (fun q h => by cases h) d_PC_sideNumber_82
  by_cases c_7 : sd = 1
  · refine lv_tableIn (off := 38) (tgt := 83) hx hb d_PC_sideNumber_45 (by rw [c_7]; decide) (by rw [c_7]; decide) (by rw [c_7]; rfl) (by decide) ?_
    refine lv_lload_n hx hb d_PC_sideNumber_83 rfl (lv_at hl 2 rfl) ?_
    refine lv_aload_n hx hb d_PC_sideNumber_84 rfl (lv_at hl 3 rfl) ?_
    refine va_get (D := (dC, dI)) (ci := 0) (v := .int wi) (C := R_PC) (T := F_PC) (N := 8) hx hb hts (fun w h => mw (i_PC w h)) hown hK hP 0 rfl rfl 0 (by decide) (hts _ (mw wd_81)) (fun _ h9 => h9) rfl d_PC_sideNumber_85 ?_
    refine lv_i2l hx hb d_PC_sideNumber_88 rfl ?_
    refine lv_lload hx hb d_PC_sideNumber_89 (lv_at hl 0 rfl) ?_
    refine lv_lmul hx hb d_PC_sideNumber_91 ?_
    refine lv_ladd hx hb d_PC_sideNumber_92 ?_
    subst er_1
    subst ey_2
    subst er_3
    subst ey_4
    subst er_5
    exact W.lret (v := (fo.toInt64 * (f_Ri_at ken kef ix 0)) + (wi.toInt64 * (f_Ri_at ken kef ix 2))) hx hb hr (fun t ht hW => ⟨_, rfl, by rw [f_PC_sideNumber, if_neg c_6, if_pos c_7], ht⟩) (fun q h => by cases h) d_PC_sideNumber_93
  by_cases c_8 : sd = 2
  · refine lv_tableIn (off := 49) (tgt := 94) hx hb d_PC_sideNumber_45 (by rw [c_8]; decide) (by rw [c_8]; decide) (by rw [c_8]; rfl) (by decide) ?_
    refine lv_aload_n hx hb d_PC_sideNumber_94 rfl (lv_at hl 3 rfl) ?_
    refine va_get (D := (dC, dI)) (ci := 0) (v := .int wi) (C := R_PC) (T := F_PC) (N := 8) hx hb hts (fun w h => mw (i_PC w h)) hown hK hP 0 rfl rfl 0 (by decide) (hts _ (mw wd_81)) (fun _ h9 => h9) rfl d_PC_sideNumber_95 ?_
    refine lv_i2l hx hb d_PC_sideNumber_98 rfl ?_
    refine lv_lload hx hb d_PC_sideNumber_99 (lv_at hl 0 rfl) ?_
    refine lv_lmul hx hb d_PC_sideNumber_101 ?_
    refine lv_lload_n hx hb d_PC_sideNumber_102 rfl (lv_at hl 2 rfl) ?_
    refine lv_lsub hx hb d_PC_sideNumber_103 ?_
    subst er_1
    subst ey_2
    subst er_3
    subst ey_4
    subst er_5
    exact W.lret (v := (wi.toInt64 * (f_Ri_at ken kef ix 2)) - (fo.toInt64 * (f_Ri_at ken kef ix 0))) hx hb hr (fun t ht hW => ⟨_, rfl, by rw [f_PC_sideNumber, if_neg c_6, if_neg c_7, if_pos c_8], ht⟩) (fun q h => by cases h) d_PC_sideNumber_104
  by_cases c_9 : sd = 3
  · refine lv_tableIn (off := 60) (tgt := 105) hx hb d_PC_sideNumber_45 (by rw [c_9]; decide) (by rw [c_9]; decide) (by rw [c_9]; rfl) (by decide) ?_
    refine lv_lload hx hb d_PC_sideNumber_105 (lv_at hl 1 rfl) ?_
    refine lv_aload_n hx hb d_PC_sideNumber_107 rfl (lv_at hl 3 rfl) ?_
    refine va_get (D := (dC, dI)) (ci := 0) (v := .int hi) (C := R_PC) (T := F_PC) (N := 8) hx hb hts (fun w h => mw (i_PC w h)) hown hK hP 0 rfl rfl 1 (by decide) (hts _ (mw wd_82)) (fun _ h9 => h9) rfl d_PC_sideNumber_108 ?_
    refine lv_i2l hx hb d_PC_sideNumber_111 rfl ?_
    refine lv_lload hx hb d_PC_sideNumber_112 (lv_at hl 0 rfl) ?_
    refine lv_lmul hx hb d_PC_sideNumber_114 ?_
    refine lv_ladd hx hb d_PC_sideNumber_115 ?_
    subst er_1
    subst ey_2
    subst er_3
    subst ey_4
    subst er_5
    exact W.lret (v := (fo.toInt64 * (f_Ri_at ken kef ix 1)) + (hi.toInt64 * (f_Ri_at ken kef ix 2))) hx hb hr (fun t ht hW => ⟨_, rfl, by rw [f_PC_sideNumber, if_neg c_6, if_neg c_7, if_neg c_8, if_pos c_9], ht⟩) (fun q h => by cases h) d_PC_sideNumber_116
  · have hsw : sd.toInt < 0 ∨ 3 < sd.toInt := sw_out0_3 c_6 c_7 c_8 c_9
    refine lv_tableOut (tgt := 117) hx hb d_PC_sideNumber_45 hsw (by decide) ?_
    refine lv_aload_n hx hb d_PC_sideNumber_117 rfl (lv_at hl 3 rfl) ?_
    refine va_get (D := (dC, dI)) (ci := 0) (v := .int hi) (C := R_PC) (T := F_PC) (N := 8) hx hb hts (fun w h => mw (i_PC w h)) hown hK hP 0 rfl rfl 1 (by decide) (hts _ (mw wd_82)) (fun _ h9 => h9) rfl d_PC_sideNumber_118 ?_
    refine lv_i2l hx hb d_PC_sideNumber_121 rfl ?_
    refine lv_lload hx hb d_PC_sideNumber_122 (lv_at hl 0 rfl) ?_
    refine lv_lmul hx hb d_PC_sideNumber_124 ?_
    refine lv_lload hx hb d_PC_sideNumber_125 (lv_at hl 1 rfl) ?_
    refine lv_lsub hx hb d_PC_sideNumber_127 ?_
    subst er_1
    subst ey_2
    subst er_3
    subst ey_4
    subst er_5
    exact W.lret (v := (hi.toInt64 * (f_Ri_at ken kef ix 2)) - (fo.toInt64 * (f_Ri_at ken kef ix 1))) hx hb hr (fun t ht hW => ⟨_, rfl, by rw [f_PC_sideNumber, if_neg c_6, if_neg c_7, if_neg c_8, if_neg c_9], ht⟩) (fun q h => by cases h) d_PC_sideNumber_128
def f_PC_areaWith (pin : Int32) (pif : Nat → Int64) (se : Int32) (th : Int32) : Int64 := (((f_Ri_at pin pif se 0) - (f_Ri_at pin pif 0 0)) * ((f_Ri_at pin pif th 1) - (f_Ri_at pin pif 0 1))) - (((f_Ri_at pin pif th 0) - (f_Ri_at pin pif 0 0)) * ((f_Ri_at pin pif se 1) - (f_Ri_at pin pif 0 1)))
set_option maxHeartbeats 4000000 in
set_option maxRecDepth 100000 in
theorem c_PC_areaWith (l : Launch) (dC : Nat → ClassId) (dI : Nat → Nat → Nat) (cJ cI : ClassId) (ob : Nat) (wi : Int32) (hi : Int32) (fo : Int32) (gi : Nat) (gia : Nat) (gin : Int32) (gif : Nat → Int64) (ke : Nat) (kea : Nat) (ken : Int32) (kef : Nat → Int64) (sp : Nat) (spa : Nat) (spn : Int32) (spf : Nat → Int64) (pi : Nat) (pia : Nat) (pin : Int32) (pif : Nat → Int64) (fa : Nat) (fas : Nat) (fat : Nat) (faa : Nat) (fan : Int32) (faS : Nat → Int32) (faT : Nat → Int32) (faA : Nat → Int32) (se : Int32) (th : Int32) : Met l y_PC_areaWith w_PC_areaWith ({ frames := 2, cells := 0, slots := 0, locals := 43 } : Room) (rq_ro (dC, dI) cJ cI [.ref ob, .int se, .int th] [(ob, .inr (0, [.int wi, .int hi, .int fo, .ref gi, .ref ke, .ref sp, .ref pi, .ref fa])), (gi, .inr (1, [.ref gia, .int gin])), (gia, .inl (cJ, 114, .inr (.inl gif))), (ke, .inr (1, [.ref kea, .int ken])), (kea, .inl (cJ, 114, .inr (.inl kef))), (sp, .inr (1, [.ref spa, .int spn])), (spa, .inl (cJ, 114, .inr (.inl spf))), (pi, .inr (1, [.ref pia, .int pin])), (pia, .inl (cJ, 114, .inr (.inl pif))), (fa, .inr (2, [.ref fas, .ref fat, .ref faa, .int fan])), (fas, .inl (cI, 17, .inl faS)), (fat, .inl (cI, 17, .inl faT)), (faa, .inl (cI, 17, .inl faA))]) (vp_Sl (fun r => r = f_PC_areaWith pin pif se th)) 0 0 (fun _ => False) := by
  refine Met.ofW (cc := b_PC_areaWith) (maxL := 7) (ret := (some .long)) (by decide) rfl ?_
  intro p e s m args below meth c s₁ B hml hv
  obtain ⟨rfl, hP, hK, hN⟩ := hv
  have hx := B.exec
  have hb := B.bytes
  have hr := B.returns
  have hts := atoms_spec (ws := w_PC_areaWith) B.pre
  have hown : s.vm.findClass R_PC = some m.cls := findClass_of_methodNamed B.named
  have hlocks := B.notSynchronized
  have hl := lv_entry ([.ref ob, .int se, .int th]) (n := 7) (Nat.le_of_ble_eq_true rfl)
  rw [lg_entry_eq]
  generalize (lg_sl ([.ref ob, .int se, .int th]) ++ List.replicate (7 - (lg_sl ([.ref ob, .int se, .int th])).length) Slot.unset).toArray = ls at hl ⊢
  have hl : lv_has ls 7 [(0, .ref ob), (1, .int se), (2, .int th)] := hl
  refine lv_aload_n hx hb d_PC_areaWith_0 rfl (lv_at hl 0 rfl) ?_
  refine va_get (D := (dC, dI)) (ci := 0) (v := .ref pi) (C := R_PC) (T := F_PC) (N := 8) hx hb hts (fun w h => mw (i_PC w h)) hown hK hP 0 rfl rfl 6 (by decide) (hts _ (mw wd_87)) (fun _ h9 => h9) rfl d_PC_areaWith_1 ?_
  refine lv_iconst (v := 0) hx hb d_PC_areaWith_4 (by decide) ?_
  refine lv_iconst (v := 0) hx hb d_PC_areaWith_5 (by decide) ?_
  have hPc := hP.sub (ws' := [(pi, .inr (1, [.ref pia, .int pin])), (pia, .inl (cJ, 114, .inr (.inl pif)))]) [7, 8] rfl
  refine vp_callSl (va_Run.run (va_runVN (As := [.int 0, .int 0]) (rest := []) ⟨hx, hb, hml, hown, hts⟩ (c_Ri_at l dC dI cJ cI pi pia pin pif 0 0) (⟨va_cnB 2 hts (gd_0 wd_136) rfl rfl rfl (hN _ nw_10) (hts _ (mw wd_35)) (by decide +kernel) ⟨Nat.le_of_ble_eq_true rfl, Nat.le_of_ble_eq_true rfl⟩, (hts _ (mw wd_135)), (hts _ (mw wd_5))⟩) ⟨fb_ro, va_recv hK hPc (ci := 1) (q0 := 0) rfl rfl, pre_ro hK hN hPc⟩ rfl rfl hl.1 rfl (lv_room (Nat.le_of_ble_eq_true rfl)) d_PC_areaWith_6 ⟨Nat.le_of_ble_eq_true rfl, Nat.le_of_ble_eq_true rfl⟩)) (fun r_1 er_1 => ?_)
  have er_1 : r_1 = f_Ri_at pin pif 0 0 := er_1
  refine lv_lstore_n (lv' := [(3, .long r_1), (0, .ref ob), (1, .int se), (2, .int th)]) hx hb d_PC_areaWith_9 rfl hl (by decide) rfl (fun ls hl => ?_)
  refine lv_aload_n hx hb d_PC_areaWith_10 rfl (lv_at hl 1 rfl) ?_
  refine va_get (D := (dC, dI)) (ci := 0) (v := .ref pi) (C := R_PC) (T := F_PC) (N := 8) hx hb hts (fun w h => mw (i_PC w h)) hown hK hP 0 rfl rfl 6 (by decide) (hts _ (mw wd_87)) (fun _ h9 => h9) rfl d_PC_areaWith_11 ?_
  refine lv_iconst (v := 0) hx hb d_PC_areaWith_14 (by decide) ?_
  refine lv_iconst (v := 1) hx hb d_PC_areaWith_15 (by decide) ?_
  have hPc := hP.sub (ws' := [(pi, .inr (1, [.ref pia, .int pin])), (pia, .inl (cJ, 114, .inr (.inl pif)))]) [7, 8] rfl
  refine vp_callSl (va_Run.run (va_runVN (As := [.int 0, .int 1]) (rest := []) ⟨hx, hb, hml, hown, hts⟩ (c_Ri_at l dC dI cJ cI pi pia pin pif 0 1) (⟨va_cnB 2 hts (gd_0 wd_136) rfl rfl rfl (hN _ nw_10) (hts _ (mw wd_35)) (by decide +kernel) ⟨Nat.le_of_ble_eq_true rfl, Nat.le_of_ble_eq_true rfl⟩, (hts _ (mw wd_135)), (hts _ (mw wd_5))⟩) ⟨fb_ro, va_recv hK hPc (ci := 1) (q0 := 0) rfl rfl, pre_ro hK hN hPc⟩ rfl rfl hl.1 rfl (lv_room (Nat.le_of_ble_eq_true rfl)) d_PC_areaWith_16 ⟨Nat.le_of_ble_eq_true rfl, Nat.le_of_ble_eq_true rfl⟩)) (fun r_2 er_2 => ?_)
  have er_2 : r_2 = f_Ri_at pin pif 0 1 := er_2
  refine lv_lstore (lv' := [(5, .long r_2), (3, .long r_1), (0, .ref ob), (1, .int se), (2, .int th)]) hx hb d_PC_areaWith_19 hl (by decide) rfl (fun ls hl => ?_)
  refine lv_aload_n hx hb d_PC_areaWith_21 rfl (lv_at hl 2 rfl) ?_
  refine va_get (D := (dC, dI)) (ci := 0) (v := .ref pi) (C := R_PC) (T := F_PC) (N := 8) hx hb hts (fun w h => mw (i_PC w h)) hown hK hP 0 rfl rfl 6 (by decide) (hts _ (mw wd_87)) (fun _ h9 => h9) rfl d_PC_areaWith_22 ?_
  refine lv_iload_n hx hb d_PC_areaWith_25 rfl (lv_at hl 3 rfl) ?_
  refine lv_iconst (v := 0) hx hb d_PC_areaWith_26 (by decide) ?_
  have hPc := hP.sub (ws' := [(pi, .inr (1, [.ref pia, .int pin])), (pia, .inl (cJ, 114, .inr (.inl pif)))]) [7, 8] rfl
  refine vp_callSl (va_Run.run (va_runVN (As := [.int se, .int 0]) (rest := []) ⟨hx, hb, hml, hown, hts⟩ (c_Ri_at l dC dI cJ cI pi pia pin pif se 0) (⟨va_cnB 2 hts (gd_0 wd_136) rfl rfl rfl (hN _ nw_10) (hts _ (mw wd_35)) (by decide +kernel) ⟨Nat.le_of_ble_eq_true rfl, Nat.le_of_ble_eq_true rfl⟩, (hts _ (mw wd_135)), (hts _ (mw wd_5))⟩) ⟨fb_ro, va_recv hK hPc (ci := 1) (q0 := 0) rfl rfl, pre_ro hK hN hPc⟩ rfl rfl hl.1 rfl (lv_room (Nat.le_of_ble_eq_true rfl)) d_PC_areaWith_27 ⟨Nat.le_of_ble_eq_true rfl, Nat.le_of_ble_eq_true rfl⟩)) (fun r_3 er_3 => ?_)
  have er_3 : r_3 = f_Ri_at pin pif se 0 := er_3
  refine lv_lload_n hx hb d_PC_areaWith_30 rfl (lv_at hl 1 rfl) ?_
  refine lv_lsub hx hb d_PC_areaWith_31 ?_
  refine lv_aload_n hx hb d_PC_areaWith_32 rfl (lv_at hl 2 rfl) ?_
  refine va_get (D := (dC, dI)) (ci := 0) (v := .ref pi) (C := R_PC) (T := F_PC) (N := 8) hx hb hts (fun w h => mw (i_PC w h)) hown hK hP 0 rfl rfl 6 (by decide) (hts _ (mw wd_87)) (fun _ h9 => h9) rfl d_PC_areaWith_33 ?_
  refine lv_iload_n hx hb d_PC_areaWith_36 rfl (lv_at hl 4 rfl) ?_
  refine lv_iconst (v := 1) hx hb d_PC_areaWith_37 (by decide) ?_
  have hPc := hP.sub (ws' := [(pi, .inr (1, [.ref pia, .int pin])), (pia, .inl (cJ, 114, .inr (.inl pif)))]) [7, 8] rfl
  refine vp_callSl (va_Run.run (va_runVN (As := [.int th, .int 1]) (rest := [.long (r_3 - r_1)]) ⟨hx, hb, hml, hown, hts⟩ (c_Ri_at l dC dI cJ cI pi pia pin pif th 1) (⟨va_cnB 2 hts (gd_0 wd_136) rfl rfl rfl (hN _ nw_10) (hts _ (mw wd_35)) (by decide +kernel) ⟨Nat.le_of_ble_eq_true rfl, Nat.le_of_ble_eq_true rfl⟩, (hts _ (mw wd_135)), (hts _ (mw wd_5))⟩) ⟨fb_ro, va_recv hK hPc (ci := 1) (q0 := 0) rfl rfl, pre_ro hK hN hPc⟩ rfl rfl hl.1 rfl (lv_room (Nat.le_of_ble_eq_true rfl)) d_PC_areaWith_38 ⟨Nat.le_of_ble_eq_true rfl, Nat.le_of_ble_eq_true rfl⟩)) (fun r_4 er_4 => ?_)
  have er_4 : r_4 = f_Ri_at pin pif th 1 := er_4
  refine lv_lload hx hb d_PC_areaWith_41 (lv_at hl 0 rfl) ?_
  refine lv_lsub hx hb d_PC_areaWith_43 ?_
  refine lv_lmul hx hb d_PC_areaWith_44 ?_
  refine lv_aload_n hx hb d_PC_areaWith_45 rfl (lv_at hl 2 rfl) ?_
  refine va_get (D := (dC, dI)) (ci := 0) (v := .ref pi) (C := R_PC) (T := F_PC) (N := 8) hx hb hts (fun w h => mw (i_PC w h)) hown hK hP 0 rfl rfl 6 (by decide) (hts _ (mw wd_87)) (fun _ h9 => h9) rfl d_PC_areaWith_46 ?_
  refine lv_iload_n hx hb d_PC_areaWith_49 rfl (lv_at hl 4 rfl) ?_
  refine lv_iconst (v := 0) hx hb d_PC_areaWith_50 (by decide) ?_
  have hPc := hP.sub (ws' := [(pi, .inr (1, [.ref pia, .int pin])), (pia, .inl (cJ, 114, .inr (.inl pif)))]) [7, 8] rfl
  refine vp_callSl (va_Run.run (va_runVN (As := [.int th, .int 0]) (rest := [.long ((r_3 - r_1) * (r_4 - r_2))]) ⟨hx, hb, hml, hown, hts⟩ (c_Ri_at l dC dI cJ cI pi pia pin pif th 0) (⟨va_cnB 2 hts (gd_0 wd_136) rfl rfl rfl (hN _ nw_10) (hts _ (mw wd_35)) (by decide +kernel) ⟨Nat.le_of_ble_eq_true rfl, Nat.le_of_ble_eq_true rfl⟩, (hts _ (mw wd_135)), (hts _ (mw wd_5))⟩) ⟨fb_ro, va_recv hK hPc (ci := 1) (q0 := 0) rfl rfl, pre_ro hK hN hPc⟩ rfl rfl hl.1 rfl (lv_room (Nat.le_of_ble_eq_true rfl)) d_PC_areaWith_51 ⟨Nat.le_of_ble_eq_true rfl, Nat.le_of_ble_eq_true rfl⟩)) (fun r_5 er_5 => ?_)
  have er_5 : r_5 = f_Ri_at pin pif th 0 := er_5
  refine lv_lload_n hx hb d_PC_areaWith_54 rfl (lv_at hl 1 rfl) ?_
  refine lv_lsub hx hb d_PC_areaWith_55 ?_
  refine lv_aload_n hx hb d_PC_areaWith_56 rfl (lv_at hl 2 rfl) ?_
  refine va_get (D := (dC, dI)) (ci := 0) (v := .ref pi) (C := R_PC) (T := F_PC) (N := 8) hx hb hts (fun w h => mw (i_PC w h)) hown hK hP 0 rfl rfl 6 (by decide) (hts _ (mw wd_87)) (fun _ h9 => h9) rfl d_PC_areaWith_57 ?_
  refine lv_iload_n hx hb d_PC_areaWith_60 rfl (lv_at hl 3 rfl) ?_
  refine lv_iconst (v := 1) hx hb d_PC_areaWith_61 (by decide) ?_
  have hPc := hP.sub (ws' := [(pi, .inr (1, [.ref pia, .int pin])), (pia, .inl (cJ, 114, .inr (.inl pif)))]) [7, 8] rfl
  refine vp_callSl (va_Run.run (va_runVN (As := [.int se, .int 1]) (rest := [.long (r_5 - r_1), .long ((r_3 - r_1) * (r_4 - r_2))]) ⟨hx, hb, hml, hown, hts⟩ (c_Ri_at l dC dI cJ cI pi pia pin pif se 1) (⟨va_cnB 2 hts (gd_0 wd_136) rfl rfl rfl (hN _ nw_10) (hts _ (mw wd_35)) (by decide +kernel) ⟨Nat.le_of_ble_eq_true rfl, Nat.le_of_ble_eq_true rfl⟩, (hts _ (mw wd_135)), (hts _ (mw wd_5))⟩) ⟨fb_ro, va_recv hK hPc (ci := 1) (q0 := 0) rfl rfl, pre_ro hK hN hPc⟩ rfl rfl hl.1 rfl (lv_room (Nat.le_of_ble_eq_true rfl)) d_PC_areaWith_62 ⟨Nat.le_of_ble_eq_true rfl, Nat.le_of_ble_eq_true rfl⟩)) (fun r_6 er_6 => ?_)
  have er_6 : r_6 = f_Ri_at pin pif se 1 := er_6
  refine lv_lload hx hb d_PC_areaWith_65 (lv_at hl 0 rfl) ?_
  refine lv_lsub hx hb d_PC_areaWith_67 ?_
  refine lv_lmul hx hb d_PC_areaWith_68 ?_
  refine lv_lsub hx hb d_PC_areaWith_69 ?_
  subst er_1
  subst er_2
  subst er_3
  subst er_4
  subst er_5
  subst er_6
  exact W.lret (v := (((f_Ri_at pin pif se 0) - (f_Ri_at pin pif 0 0)) * ((f_Ri_at pin pif th 1) - (f_Ri_at pin pif 0 1))) - (((f_Ri_at pin pif th 0) - (f_Ri_at pin pif 0 0)) * ((f_Ri_at pin pif se 1) - (f_Ri_at pin pif 0 1)))) hx hb hr (fun t ht hW => ⟨_, rfl, rfl, ht⟩) (fun q h => by cases h) d_PC_areaWith_70
def f_PC_edgeNumber (pin : Int32) (pif : Nat → Int64) (fan : Int32) (faS : Nat → Int32) (faT : Nat → Int32) (ix : Int32) (co : Int32) (xx : Int32) (yy : Int32) : Int64 := (((f_Ri_at pin pif (f_Fa_corner fan faS faT ix (f_PC_cornerAfter (f_PC_cornerAfter co))) 0) - (f_Ri_at pin pif (f_Fa_corner fan faS faT ix (f_PC_cornerAfter co)) 0)) * ((f_PC_middle yy) - (f_Ri_at pin pif (f_Fa_corner fan faS faT ix (f_PC_cornerAfter co)) 1))) - (((f_Ri_at pin pif (f_Fa_corner fan faS faT ix (f_PC_cornerAfter (f_PC_cornerAfter co))) 1) - (f_Ri_at pin pif (f_Fa_corner fan faS faT ix (f_PC_cornerAfter co)) 1)) * ((f_PC_middle xx) - (f_Ri_at pin pif (f_Fa_corner fan faS faT ix (f_PC_cornerAfter co)) 0)))
set_option maxHeartbeats 4000000 in
set_option maxRecDepth 100000 in
theorem c_PC_edgeNumber (l : Launch) (dC : Nat → ClassId) (dI : Nat → Nat → Nat) (cJ cI : ClassId) (ob : Nat) (wi : Int32) (hi : Int32) (fo : Int32) (gi : Nat) (gia : Nat) (gin : Int32) (gif : Nat → Int64) (ke : Nat) (kea : Nat) (ken : Int32) (kef : Nat → Int64) (sp : Nat) (spa : Nat) (spn : Int32) (spf : Nat → Int64) (pi : Nat) (pia : Nat) (pin : Int32) (pif : Nat → Int64) (fa : Nat) (fas : Nat) (fat : Nat) (faa : Nat) (fan : Int32) (faS : Nat → Int32) (faT : Nat → Int32) (faA : Nat → Int32) (ix : Int32) (co : Int32) (xx : Int32) (yy : Int32) : Met l y_PC_edgeNumber w_PC_edgeNumber ({ frames := 2, cells := 0, slots := 0, locals := 43 } : Room) (rq_ro (dC, dI) cJ cI [.ref ob, .int ix, .int co, .int xx, .int yy] [(ob, .inr (0, [.int wi, .int hi, .int fo, .ref gi, .ref ke, .ref sp, .ref pi, .ref fa])), (gi, .inr (1, [.ref gia, .int gin])), (gia, .inl (cJ, 114, .inr (.inl gif))), (ke, .inr (1, [.ref kea, .int ken])), (kea, .inl (cJ, 114, .inr (.inl kef))), (sp, .inr (1, [.ref spa, .int spn])), (spa, .inl (cJ, 114, .inr (.inl spf))), (pi, .inr (1, [.ref pia, .int pin])), (pia, .inl (cJ, 114, .inr (.inl pif))), (fa, .inr (2, [.ref fas, .ref fat, .ref faa, .int fan])), (fas, .inl (cI, 17, .inl faS)), (fat, .inl (cI, 17, .inl faT)), (faa, .inl (cI, 17, .inl faA))]) (vp_Sl (fun r => r = f_PC_edgeNumber pin pif fan faS faT ix co xx yy)) 0 0 (fun _ => False) := by
  refine Met.ofW (cc := b_PC_edgeNumber) (maxL := 11) (ret := (some .long)) (by decide) rfl ?_
  intro p e s m args below meth c s₁ B hml hv
  obtain ⟨rfl, hP, hK, hN⟩ := hv
  have hx := B.exec
  have hb := B.bytes
  have hr := B.returns
  have hts := atoms_spec (ws := w_PC_edgeNumber) B.pre
  have hown : s.vm.findClass R_PC = some m.cls := findClass_of_methodNamed B.named
  have hlocks := B.notSynchronized
  have hl := lv_entry ([.ref ob, .int ix, .int co, .int xx, .int yy]) (n := 11) (Nat.le_of_ble_eq_true rfl)
  rw [lg_entry_eq]
  generalize (lg_sl ([.ref ob, .int ix, .int co, .int xx, .int yy]) ++ List.replicate (11 - (lg_sl ([.ref ob, .int ix, .int co, .int xx, .int yy])).length) Slot.unset).toArray = ls at hl ⊢
  have hl : lv_has ls 11 [(0, .ref ob), (1, .int ix), (2, .int co), (3, .int xx), (4, .int yy)] := hl
  refine lv_aload_n hx hb d_PC_edgeNumber_0 rfl (lv_at hl 0 rfl) ?_
  refine va_get (D := (dC, dI)) (ci := 0) (v := .ref fa) (C := R_PC) (T := F_PC) (N := 8) hx hb hts (fun w h => mw (i_PC w h)) hown hK hP 0 rfl rfl 7 (by decide) (hts _ (mw wd_88)) (fun _ h9 => h9) rfl d_PC_edgeNumber_1 ?_
  refine lv_iload_n hx hb d_PC_edgeNumber_4 rfl (lv_at hl 1 rfl) ?_
  refine lv_iload_n hx hb d_PC_edgeNumber_5 rfl (lv_at hl 2 rfl) ?_
  refine vp_callSi (va_Run.run (va_runS (As := [.int co]) (rest := [.int ix, .ref fa]) ⟨hx, hb, hml, hown, hts⟩ (c_PC_cornerAfter l dC dI cJ cI co) (va_cwS 1 hts (gd_S wd_199 wd_200 wd_33 wd_201) rfl rfl rfl (by decide +kernel) ⟨Nat.le_of_ble_eq_true rfl, Nat.le_of_ble_eq_true rfl⟩) ⟨fb_ro, pre_ro hK hN va_nil⟩ rfl rfl hl.1 rfl (lv_room (Nat.le_of_ble_eq_true rfl)) d_PC_edgeNumber_6 ⟨Nat.le_of_ble_eq_true rfl, Nat.le_of_ble_eq_true rfl⟩)) (fun r_1 er_1 => ?_)
  have er_1 : r_1 = f_PC_cornerAfter co := er_1
  have hPc := hP.sub (ws' := [(fa, .inr (2, [.ref fas, .ref fat, .ref faa, .int fan])), (fas, .inl (cI, 17, .inl faS)), (fat, .inl (cI, 17, .inl faT)), (faa, .inl (cI, 17, .inl faA))]) [9, 10, 11, 12] rfl
  refine vp_callSi (va_Run.run (va_runVN (As := [.int ix, .int r_1]) (rest := []) ⟨hx, hb, hml, hown, hts⟩ (c_Fa_corner l dC dI cJ cI fa fas fat faa fan faS faT faA ix r_1) (⟨va_cnB 2 hts (gd_0 wd_175) rfl rfl rfl (hN _ nw_13) (hts _ (mw wd_36)) (by decide +kernel) ⟨Nat.le_of_ble_eq_true rfl, Nat.le_of_ble_eq_true rfl⟩, (hts _ (mw wd_174)), (hts _ (mw wd_14))⟩) ⟨fb_ro, va_recv hK hPc (ci := 2) (q0 := 0) rfl rfl, pre_ro hK hN hPc⟩ rfl rfl hl.1 rfl (lv_room (Nat.le_of_ble_eq_true rfl)) d_PC_edgeNumber_9 ⟨Nat.le_of_ble_eq_true rfl, Nat.le_of_ble_eq_true rfl⟩)) (fun r_2 er_2 => ?_)
  have er_2 : r_2 = f_Fa_corner fan faS faT ix r_1 := er_2
  refine lv_istore (lv' := [(5, .int r_2), (0, .ref ob), (1, .int ix), (2, .int co), (3, .int xx), (4, .int yy)]) hx hb d_PC_edgeNumber_12 hl (by decide) rfl (fun ls hl => ?_)
  refine lv_aload_n hx hb d_PC_edgeNumber_14 rfl (lv_at hl 1 rfl) ?_
  refine va_get (D := (dC, dI)) (ci := 0) (v := .ref fa) (C := R_PC) (T := F_PC) (N := 8) hx hb hts (fun w h => mw (i_PC w h)) hown hK hP 0 rfl rfl 7 (by decide) (hts _ (mw wd_88)) (fun _ h9 => h9) rfl d_PC_edgeNumber_15 ?_
  refine lv_iload_n hx hb d_PC_edgeNumber_18 rfl (lv_at hl 2 rfl) ?_
  refine lv_iload_n hx hb d_PC_edgeNumber_19 rfl (lv_at hl 3 rfl) ?_
  refine vp_callSi (va_Run.run (va_runS (As := [.int co]) (rest := [.int ix, .ref fa]) ⟨hx, hb, hml, hown, hts⟩ (c_PC_cornerAfter l dC dI cJ cI co) (va_cwS 1 hts (gd_S wd_199 wd_200 wd_33 wd_201) rfl rfl rfl (by decide +kernel) ⟨Nat.le_of_ble_eq_true rfl, Nat.le_of_ble_eq_true rfl⟩) ⟨fb_ro, pre_ro hK hN va_nil⟩ rfl rfl hl.1 rfl (lv_room (Nat.le_of_ble_eq_true rfl)) d_PC_edgeNumber_20 ⟨Nat.le_of_ble_eq_true rfl, Nat.le_of_ble_eq_true rfl⟩)) (fun r_3 er_3 => ?_)
  have er_3 : r_3 = f_PC_cornerAfter co := er_3
  refine vp_callSi (va_Run.run (va_runS (As := [.int r_3]) (rest := [.int ix, .ref fa]) ⟨hx, hb, hml, hown, hts⟩ (c_PC_cornerAfter l dC dI cJ cI r_3) (va_cwS 1 hts (gd_S wd_199 wd_200 wd_33 wd_201) rfl rfl rfl (by decide +kernel) ⟨Nat.le_of_ble_eq_true rfl, Nat.le_of_ble_eq_true rfl⟩) ⟨fb_ro, pre_ro hK hN va_nil⟩ rfl rfl hl.1 rfl (lv_room (Nat.le_of_ble_eq_true rfl)) d_PC_edgeNumber_23 ⟨Nat.le_of_ble_eq_true rfl, Nat.le_of_ble_eq_true rfl⟩)) (fun r_4 er_4 => ?_)
  have er_4 : r_4 = f_PC_cornerAfter r_3 := er_4
  have hPc := hP.sub (ws' := [(fa, .inr (2, [.ref fas, .ref fat, .ref faa, .int fan])), (fas, .inl (cI, 17, .inl faS)), (fat, .inl (cI, 17, .inl faT)), (faa, .inl (cI, 17, .inl faA))]) [9, 10, 11, 12] rfl
  refine vp_callSi (va_Run.run (va_runVN (As := [.int ix, .int r_4]) (rest := []) ⟨hx, hb, hml, hown, hts⟩ (c_Fa_corner l dC dI cJ cI fa fas fat faa fan faS faT faA ix r_4) (⟨va_cnB 2 hts (gd_0 wd_175) rfl rfl rfl (hN _ nw_13) (hts _ (mw wd_36)) (by decide +kernel) ⟨Nat.le_of_ble_eq_true rfl, Nat.le_of_ble_eq_true rfl⟩, (hts _ (mw wd_174)), (hts _ (mw wd_14))⟩) ⟨fb_ro, va_recv hK hPc (ci := 2) (q0 := 0) rfl rfl, pre_ro hK hN hPc⟩ rfl rfl hl.1 rfl (lv_room (Nat.le_of_ble_eq_true rfl)) d_PC_edgeNumber_26 ⟨Nat.le_of_ble_eq_true rfl, Nat.le_of_ble_eq_true rfl⟩)) (fun r_5 er_5 => ?_)
  have er_5 : r_5 = f_Fa_corner fan faS faT ix r_4 := er_5
  refine lv_istore (lv' := [(6, .int r_5), (5, .int r_2), (0, .ref ob), (1, .int ix), (2, .int co), (3, .int xx), (4, .int yy)]) hx hb d_PC_edgeNumber_29 hl (by decide) rfl (fun ls hl => ?_)
  refine lv_aload_n hx hb d_PC_edgeNumber_31 rfl (lv_at hl 2 rfl) ?_
  refine va_get (D := (dC, dI)) (ci := 0) (v := .ref pi) (C := R_PC) (T := F_PC) (N := 8) hx hb hts (fun w h => mw (i_PC w h)) hown hK hP 0 rfl rfl 6 (by decide) (hts _ (mw wd_87)) (fun _ h9 => h9) rfl d_PC_edgeNumber_32 ?_
  refine lv_iload hx hb d_PC_edgeNumber_35 (lv_at hl 1 rfl) ?_
  refine lv_iconst (v := 0) hx hb d_PC_edgeNumber_37 (by decide) ?_
  have hPc := hP.sub (ws' := [(pi, .inr (1, [.ref pia, .int pin])), (pia, .inl (cJ, 114, .inr (.inl pif)))]) [7, 8] rfl
  refine vp_callSl (va_Run.run (va_runVN (As := [.int r_2, .int 0]) (rest := []) ⟨hx, hb, hml, hown, hts⟩ (c_Ri_at l dC dI cJ cI pi pia pin pif r_2 0) (⟨va_cnB 2 hts (gd_0 wd_136) rfl rfl rfl (hN _ nw_10) (hts _ (mw wd_35)) (by decide +kernel) ⟨Nat.le_of_ble_eq_true rfl, Nat.le_of_ble_eq_true rfl⟩, (hts _ (mw wd_135)), (hts _ (mw wd_5))⟩) ⟨fb_ro, va_recv hK hPc (ci := 1) (q0 := 0) rfl rfl, pre_ro hK hN hPc⟩ rfl rfl hl.1 rfl (lv_room (Nat.le_of_ble_eq_true rfl)) d_PC_edgeNumber_38 ⟨Nat.le_of_ble_eq_true rfl, Nat.le_of_ble_eq_true rfl⟩)) (fun r_6 er_6 => ?_)
  have er_6 : r_6 = f_Ri_at pin pif r_2 0 := er_6
  refine lv_lstore (lv' := [(7, .long r_6), (6, .int r_5), (5, .int r_2), (0, .ref ob), (1, .int ix), (2, .int co), (3, .int xx), (4, .int yy)]) hx hb d_PC_edgeNumber_41 hl (by decide) rfl (fun ls hl => ?_)
  refine lv_aload_n hx hb d_PC_edgeNumber_43 rfl (lv_at hl 3 rfl) ?_
  refine va_get (D := (dC, dI)) (ci := 0) (v := .ref pi) (C := R_PC) (T := F_PC) (N := 8) hx hb hts (fun w h => mw (i_PC w h)) hown hK hP 0 rfl rfl 6 (by decide) (hts _ (mw wd_87)) (fun _ h9 => h9) rfl d_PC_edgeNumber_44 ?_
  refine lv_iload hx hb d_PC_edgeNumber_47 (lv_at hl 2 rfl) ?_
  refine lv_iconst (v := 1) hx hb d_PC_edgeNumber_49 (by decide) ?_
  have hPc := hP.sub (ws' := [(pi, .inr (1, [.ref pia, .int pin])), (pia, .inl (cJ, 114, .inr (.inl pif)))]) [7, 8] rfl
  refine vp_callSl (va_Run.run (va_runVN (As := [.int r_2, .int 1]) (rest := []) ⟨hx, hb, hml, hown, hts⟩ (c_Ri_at l dC dI cJ cI pi pia pin pif r_2 1) (⟨va_cnB 2 hts (gd_0 wd_136) rfl rfl rfl (hN _ nw_10) (hts _ (mw wd_35)) (by decide +kernel) ⟨Nat.le_of_ble_eq_true rfl, Nat.le_of_ble_eq_true rfl⟩, (hts _ (mw wd_135)), (hts _ (mw wd_5))⟩) ⟨fb_ro, va_recv hK hPc (ci := 1) (q0 := 0) rfl rfl, pre_ro hK hN hPc⟩ rfl rfl hl.1 rfl (lv_room (Nat.le_of_ble_eq_true rfl)) d_PC_edgeNumber_50 ⟨Nat.le_of_ble_eq_true rfl, Nat.le_of_ble_eq_true rfl⟩)) (fun r_7 er_7 => ?_)
  have er_7 : r_7 = f_Ri_at pin pif r_2 1 := er_7
  refine lv_lstore (lv' := [(9, .long r_7), (7, .long r_6), (6, .int r_5), (5, .int r_2), (0, .ref ob), (1, .int ix), (2, .int co), (3, .int xx), (4, .int yy)]) hx hb d_PC_edgeNumber_53 hl (by decide) rfl (fun ls hl => ?_)
  refine lv_aload_n hx hb d_PC_edgeNumber_55 rfl (lv_at hl 4 rfl) ?_
  refine va_get (D := (dC, dI)) (ci := 0) (v := .ref pi) (C := R_PC) (T := F_PC) (N := 8) hx hb hts (fun w h => mw (i_PC w h)) hown hK hP 0 rfl rfl 6 (by decide) (hts _ (mw wd_87)) (fun _ h9 => h9) rfl d_PC_edgeNumber_56 ?_
  refine lv_iload hx hb d_PC_edgeNumber_59 (lv_at hl 2 rfl) ?_
  refine lv_iconst (v := 0) hx hb d_PC_edgeNumber_61 (by decide) ?_
  have hPc := hP.sub (ws' := [(pi, .inr (1, [.ref pia, .int pin])), (pia, .inl (cJ, 114, .inr (.inl pif)))]) [7, 8] rfl
  refine vp_callSl (va_Run.run (va_runVN (As := [.int r_5, .int 0]) (rest := []) ⟨hx, hb, hml, hown, hts⟩ (c_Ri_at l dC dI cJ cI pi pia pin pif r_5 0) (⟨va_cnB 2 hts (gd_0 wd_136) rfl rfl rfl (hN _ nw_10) (hts _ (mw wd_35)) (by decide +kernel) ⟨Nat.le_of_ble_eq_true rfl, Nat.le_of_ble_eq_true rfl⟩, (hts _ (mw wd_135)), (hts _ (mw wd_5))⟩) ⟨fb_ro, va_recv hK hPc (ci := 1) (q0 := 0) rfl rfl, pre_ro hK hN hPc⟩ rfl rfl hl.1 rfl (lv_room (Nat.le_of_ble_eq_true rfl)) d_PC_edgeNumber_62 ⟨Nat.le_of_ble_eq_true rfl, Nat.le_of_ble_eq_true rfl⟩)) (fun r_8 er_8 => ?_)
  have er_8 : r_8 = f_Ri_at pin pif r_5 0 := er_8
  refine lv_lload hx hb d_PC_edgeNumber_65 (lv_at hl 1 rfl) ?_
  refine lv_lsub hx hb d_PC_edgeNumber_67 ?_
  refine lv_iload hx hb d_PC_edgeNumber_68 (lv_at hl 8 rfl) ?_
  refine vp_callSl (va_Run.run (va_runS (As := [.int yy]) (rest := [.long (r_8 - r_6)]) ⟨hx, hb, hml, hown, hts⟩ (c_PC_middle l dC dI cJ cI yy) (va_cwS 1 hts (gd_S wd_202 wd_203 wd_33 wd_204) rfl rfl rfl (by decide +kernel) ⟨Nat.le_of_ble_eq_true rfl, Nat.le_of_ble_eq_true rfl⟩) ⟨fb_ro, pre_ro hK hN va_nil⟩ rfl rfl hl.1 rfl (lv_room (Nat.le_of_ble_eq_true rfl)) d_PC_edgeNumber_70 ⟨Nat.le_of_ble_eq_true rfl, Nat.le_of_ble_eq_true rfl⟩)) (fun r_9 er_9 => ?_)
  have er_9 : r_9 = f_PC_middle yy := er_9
  refine lv_lload hx hb d_PC_edgeNumber_73 (lv_at hl 0 rfl) ?_
  refine lv_lsub hx hb d_PC_edgeNumber_75 ?_
  refine lv_lmul hx hb d_PC_edgeNumber_76 ?_
  refine lv_aload_n hx hb d_PC_edgeNumber_77 rfl (lv_at hl 4 rfl) ?_
  refine va_get (D := (dC, dI)) (ci := 0) (v := .ref pi) (C := R_PC) (T := F_PC) (N := 8) hx hb hts (fun w h => mw (i_PC w h)) hown hK hP 0 rfl rfl 6 (by decide) (hts _ (mw wd_87)) (fun _ h9 => h9) rfl d_PC_edgeNumber_78 ?_
  refine lv_iload hx hb d_PC_edgeNumber_81 (lv_at hl 2 rfl) ?_
  refine lv_iconst (v := 1) hx hb d_PC_edgeNumber_83 (by decide) ?_
  have hPc := hP.sub (ws' := [(pi, .inr (1, [.ref pia, .int pin])), (pia, .inl (cJ, 114, .inr (.inl pif)))]) [7, 8] rfl
  refine vp_callSl (va_Run.run (va_runVN (As := [.int r_5, .int 1]) (rest := [.long ((r_8 - r_6) * (r_9 - r_7))]) ⟨hx, hb, hml, hown, hts⟩ (c_Ri_at l dC dI cJ cI pi pia pin pif r_5 1) (⟨va_cnB 2 hts (gd_0 wd_136) rfl rfl rfl (hN _ nw_10) (hts _ (mw wd_35)) (by decide +kernel) ⟨Nat.le_of_ble_eq_true rfl, Nat.le_of_ble_eq_true rfl⟩, (hts _ (mw wd_135)), (hts _ (mw wd_5))⟩) ⟨fb_ro, va_recv hK hPc (ci := 1) (q0 := 0) rfl rfl, pre_ro hK hN hPc⟩ rfl rfl hl.1 rfl (lv_room (Nat.le_of_ble_eq_true rfl)) d_PC_edgeNumber_84 ⟨Nat.le_of_ble_eq_true rfl, Nat.le_of_ble_eq_true rfl⟩)) (fun r_10 er_10 => ?_)
  have er_10 : r_10 = f_Ri_at pin pif r_5 1 := er_10
  refine lv_lload hx hb d_PC_edgeNumber_87 (lv_at hl 0 rfl) ?_
  refine lv_lsub hx hb d_PC_edgeNumber_89 ?_
  refine lv_iload_n hx hb d_PC_edgeNumber_90 rfl (lv_at hl 7 rfl) ?_
  refine vp_callSl (va_Run.run (va_runS (As := [.int xx]) (rest := [.long (r_10 - r_7), .long ((r_8 - r_6) * (r_9 - r_7))]) ⟨hx, hb, hml, hown, hts⟩ (c_PC_middle l dC dI cJ cI xx) (va_cwS 1 hts (gd_S wd_202 wd_203 wd_33 wd_204) rfl rfl rfl (by decide +kernel) ⟨Nat.le_of_ble_eq_true rfl, Nat.le_of_ble_eq_true rfl⟩) ⟨fb_ro, pre_ro hK hN va_nil⟩ rfl rfl hl.1 rfl (lv_room (Nat.le_of_ble_eq_true rfl)) d_PC_edgeNumber_91 ⟨Nat.le_of_ble_eq_true rfl, Nat.le_of_ble_eq_true rfl⟩)) (fun r_11 er_11 => ?_)
  have er_11 : r_11 = f_PC_middle xx := er_11
  refine lv_lload hx hb d_PC_edgeNumber_94 (lv_at hl 1 rfl) ?_
  refine lv_lsub hx hb d_PC_edgeNumber_96 ?_
  refine lv_lmul hx hb d_PC_edgeNumber_97 ?_
  refine lv_lsub hx hb d_PC_edgeNumber_98 ?_
  subst er_1
  subst er_2
  subst er_3
  subst er_4
  subst er_5
  subst er_6
  subst er_7
  subst er_8
  subst er_9
  subst er_10
  subst er_11
  exact W.lret (v := (((f_Ri_at pin pif (f_Fa_corner fan faS faT ix (f_PC_cornerAfter (f_PC_cornerAfter co))) 0) - (f_Ri_at pin pif (f_Fa_corner fan faS faT ix (f_PC_cornerAfter co)) 0)) * ((f_PC_middle yy) - (f_Ri_at pin pif (f_Fa_corner fan faS faT ix (f_PC_cornerAfter co)) 1))) - (((f_Ri_at pin pif (f_Fa_corner fan faS faT ix (f_PC_cornerAfter (f_PC_cornerAfter co))) 1) - (f_Ri_at pin pif (f_Fa_corner fan faS faT ix (f_PC_cornerAfter co)) 1)) * ((f_PC_middle xx) - (f_Ri_at pin pif (f_Fa_corner fan faS faT ix (f_PC_cornerAfter co)) 0)))) hx hb hr (fun t ht hW => ⟨_, rfl, rfl, ht⟩) (fun q h => by cases h) d_PC_edgeNumber_99
def f_PC_isInside (pin : Int32) (pif : Nat → Int64) (fan : Int32) (faS : Nat → Int32) (faT : Nat → Int32) (ix : Int32) (co : Int32) (xx : Int32) (yy : Int32) : Int32 := if (f_PC_edgeNumber pin pif fan faS faT ix co xx yy) = 0 then (if ((f_Ri_at pin pif (f_Fa_corner fan faS faT ix (f_PC_cornerAfter (f_PC_cornerAfter co))) 1) - (f_Ri_at pin pif (f_Fa_corner fan faS faT ix (f_PC_cornerAfter co)) 1)) < 0 then 1 else (if ((f_Ri_at pin pif (f_Fa_corner fan faS faT ix (f_PC_cornerAfter (f_PC_cornerAfter co))) 1) - (f_Ri_at pin pif (f_Fa_corner fan faS faT ix (f_PC_cornerAfter co)) 1)) = 0 then (if (f_Ri_at pin pif (f_Fa_corner fan faS faT ix (f_PC_cornerAfter (f_PC_cornerAfter co))) 0) ≤ (f_Ri_at pin pif (f_Fa_corner fan faS faT ix (f_PC_cornerAfter co)) 0) then 0 else 1) else 0)) else (if (f_PC_edgeNumber pin pif fan faS faT ix co xx yy) ≤ 0 then 0 else 1)
set_option maxHeartbeats 4000000 in
set_option maxRecDepth 100000 in
theorem c_PC_isInside (l : Launch) (dC : Nat → ClassId) (dI : Nat → Nat → Nat) (cJ cI : ClassId) (ob : Nat) (wi : Int32) (hi : Int32) (fo : Int32) (gi : Nat) (gia : Nat) (gin : Int32) (gif : Nat → Int64) (ke : Nat) (kea : Nat) (ken : Int32) (kef : Nat → Int64) (sp : Nat) (spa : Nat) (spn : Int32) (spf : Nat → Int64) (pi : Nat) (pia : Nat) (pin : Int32) (pif : Nat → Int64) (fa : Nat) (fas : Nat) (fat : Nat) (faa : Nat) (fan : Int32) (faS : Nat → Int32) (faT : Nat → Int32) (faA : Nat → Int32) (ix : Int32) (co : Int32) (xx : Int32) (yy : Int32) : Met l y_PC_isInside w_PC_isInside ({ frames := 3, cells := 0, slots := 0, locals := 73 } : Room) (rq_ro (dC, dI) cJ cI [.ref ob, .int ix, .int co, .int xx, .int yy] [(ob, .inr (0, [.int wi, .int hi, .int fo, .ref gi, .ref ke, .ref sp, .ref pi, .ref fa])), (gi, .inr (1, [.ref gia, .int gin])), (gia, .inl (cJ, 114, .inr (.inl gif))), (ke, .inr (1, [.ref kea, .int ken])), (kea, .inl (cJ, 114, .inr (.inl kef))), (sp, .inr (1, [.ref spa, .int spn])), (spa, .inl (cJ, 114, .inr (.inl spf))), (pi, .inr (1, [.ref pia, .int pin])), (pia, .inl (cJ, 114, .inr (.inl pif))), (fa, .inr (2, [.ref fas, .ref fat, .ref faa, .int fan])), (fas, .inl (cI, 17, .inl faS)), (fat, .inl (cI, 17, .inl faT)), (faa, .inl (cI, 17, .inl faA))]) (vp_Si (fun r => r = f_PC_isInside pin pif fan faS faT ix co xx yy)) 0 0 (fun _ => False) := by
  refine Met.ofW (cc := b_PC_isInside) (maxL := 11) (ret := (some .boolean)) (by decide) rfl ?_
  intro p e s m args below meth c s₁ B hml hv
  obtain ⟨rfl, hP, hK, hN⟩ := hv
  have hx := B.exec
  have hb := B.bytes
  have hr := B.returns
  have hts := atoms_spec (ws := w_PC_isInside) B.pre
  have hown : s.vm.findClass R_PC = some m.cls := findClass_of_methodNamed B.named
  have hlocks := B.notSynchronized
  have hl := lv_entry ([.ref ob, .int ix, .int co, .int xx, .int yy]) (n := 11) (Nat.le_of_ble_eq_true rfl)
  rw [lg_entry_eq]
  generalize (lg_sl ([.ref ob, .int ix, .int co, .int xx, .int yy]) ++ List.replicate (11 - (lg_sl ([.ref ob, .int ix, .int co, .int xx, .int yy])).length) Slot.unset).toArray = ls at hl ⊢
  have hl : lv_has ls 11 [(0, .ref ob), (1, .int ix), (2, .int co), (3, .int xx), (4, .int yy)] := hl
  refine lv_aload_n hx hb d_PC_isInside_0 rfl (lv_at hl 0 rfl) ?_
  refine lv_iload_n hx hb d_PC_isInside_1 rfl (lv_at hl 1 rfl) ?_
  refine lv_iload_n hx hb d_PC_isInside_2 rfl (lv_at hl 2 rfl) ?_
  refine lv_iload_n hx hb d_PC_isInside_3 rfl (lv_at hl 3 rfl) ?_
  refine lv_iload hx hb d_PC_isInside_4 (lv_at hl 4 rfl) ?_
  have hPc := hP
  refine vp_callSl (va_Run.run (va_runV (As := [.int ix, .int co, .int xx, .int yy]) (rest := []) ⟨hx, hb, hml, hown, hts⟩ (c_PC_edgeNumber l dC dI cJ cI ob wi hi fo gi gia gin gif ke kea ken kef sp spa spn spf pi pia pin pif fa fas fat faa fan faS faT faA ix co xx yy) (cwV 4 hts (gd_V wd_196 wd_197 wd_19 wd_33 wd_198) rfl rfl rfl (by decide +kernel) ⟨Nat.le_of_ble_eq_true rfl, Nat.le_of_ble_eq_true rfl⟩) ⟨fb_ro, va_recv hK hPc (ci := 0) (q0 := 0) rfl rfl, pre_ro hK hN hPc⟩ rfl rfl hl.1 rfl (lv_room (Nat.le_of_ble_eq_true rfl)) d_PC_isInside_6 ⟨Nat.le_of_ble_eq_true rfl, Nat.le_of_ble_eq_true rfl⟩)) (fun r_1 er_1 => ?_)
  have er_1 : r_1 = f_PC_edgeNumber pin pif fan faS faT ix co xx yy := er_1
  refine lv_lstore (lv' := [(5, .long r_1), (0, .ref ob), (1, .int ix), (2, .int co), (3, .int xx), (4, .int yy)]) hx hb d_PC_isInside_9 hl (by decide) rfl (fun ls hl => ?_)
  refine lv_lload hx hb d_PC_isInside_11 (lv_at hl 0 rfl) ?_
  refine lv_lconst (v := 0) hx hb d_PC_isInside_13 (by decide) ?_
  refine W.lcmp hx hb d_PC_isInside_14 ?_
  refine lv_if_eq (tgt := 31) hx hb d_PC_isInside_15 (by decide) (fun c_2 => ?_) (fun c_2 => ?_)
  · rw [lg_cmp_eq] at c_2
    have c_2 : r_1 = 0 := c_2
    refine lv_aload_n hx hb d_PC_isInside_31 rfl (lv_at hl 1 rfl) ?_
    refine va_get (D := (dC, dI)) (ci := 0) (v := .ref fa) (C := R_PC) (T := F_PC) (N := 8) hx hb hts (fun w h => mw (i_PC w h)) hown hK hP 0 rfl rfl 7 (by decide) (hts _ (mw wd_88)) (fun _ h9 => h9) rfl d_PC_isInside_32 ?_
    refine lv_iload_n hx hb d_PC_isInside_35 rfl (lv_at hl 2 rfl) ?_
    refine lv_iload_n hx hb d_PC_isInside_36 rfl (lv_at hl 3 rfl) ?_
    refine vp_callSi (va_Run.run (va_runS (As := [.int co]) (rest := [.int ix, .ref fa]) ⟨hx, hb, hml, hown, hts⟩ (c_PC_cornerAfter l dC dI cJ cI co) (va_cwS 1 hts (gd_S wd_199 wd_200 wd_33 wd_201) rfl rfl rfl (by decide +kernel) ⟨Nat.le_of_ble_eq_true rfl, Nat.le_of_ble_eq_true rfl⟩) ⟨fb_ro, pre_ro hK hN va_nil⟩ rfl rfl hl.1 rfl (lv_room (Nat.le_of_ble_eq_true rfl)) d_PC_isInside_37 ⟨Nat.le_of_ble_eq_true rfl, Nat.le_of_ble_eq_true rfl⟩)) (fun r_3 er_3 => ?_)
    have er_3 : r_3 = f_PC_cornerAfter co := er_3
    have hPc := hP.sub (ws' := [(fa, .inr (2, [.ref fas, .ref fat, .ref faa, .int fan])), (fas, .inl (cI, 17, .inl faS)), (fat, .inl (cI, 17, .inl faT)), (faa, .inl (cI, 17, .inl faA))]) [9, 10, 11, 12] rfl
    refine vp_callSi (va_Run.run (va_runVN (As := [.int ix, .int r_3]) (rest := []) ⟨hx, hb, hml, hown, hts⟩ (c_Fa_corner l dC dI cJ cI fa fas fat faa fan faS faT faA ix r_3) (⟨va_cnB 2 hts (gd_0 wd_175) rfl rfl rfl (hN _ nw_13) (hts _ (mw wd_36)) (by decide +kernel) ⟨Nat.le_of_ble_eq_true rfl, Nat.le_of_ble_eq_true rfl⟩, (hts _ (mw wd_174)), (hts _ (mw wd_14))⟩) ⟨fb_ro, va_recv hK hPc (ci := 2) (q0 := 0) rfl rfl, pre_ro hK hN hPc⟩ rfl rfl hl.1 rfl (lv_room (Nat.le_of_ble_eq_true rfl)) d_PC_isInside_40 ⟨Nat.le_of_ble_eq_true rfl, Nat.le_of_ble_eq_true rfl⟩)) (fun r_4 er_4 => ?_)
    have er_4 : r_4 = f_Fa_corner fan faS faT ix r_3 := er_4
    refine lv_istore (lv' := [(7, .int r_4), (5, .long r_1), (0, .ref ob), (1, .int ix), (2, .int co), (3, .int xx), (4, .int yy)]) hx hb d_PC_isInside_43 hl (by decide) rfl (fun ls hl => ?_)
    refine lv_aload_n hx hb d_PC_isInside_45 rfl (lv_at hl 2 rfl) ?_
    refine va_get (D := (dC, dI)) (ci := 0) (v := .ref fa) (C := R_PC) (T := F_PC) (N := 8) hx hb hts (fun w h => mw (i_PC w h)) hown hK hP 0 rfl rfl 7 (by decide) (hts _ (mw wd_88)) (fun _ h9 => h9) rfl d_PC_isInside_46 ?_
    refine lv_iload_n hx hb d_PC_isInside_49 rfl (lv_at hl 3 rfl) ?_
    refine lv_iload_n hx hb d_PC_isInside_50 rfl (lv_at hl 4 rfl) ?_
    refine vp_callSi (va_Run.run (va_runS (As := [.int co]) (rest := [.int ix, .ref fa]) ⟨hx, hb, hml, hown, hts⟩ (c_PC_cornerAfter l dC dI cJ cI co) (va_cwS 1 hts (gd_S wd_199 wd_200 wd_33 wd_201) rfl rfl rfl (by decide +kernel) ⟨Nat.le_of_ble_eq_true rfl, Nat.le_of_ble_eq_true rfl⟩) ⟨fb_ro, pre_ro hK hN va_nil⟩ rfl rfl hl.1 rfl (lv_room (Nat.le_of_ble_eq_true rfl)) d_PC_isInside_51 ⟨Nat.le_of_ble_eq_true rfl, Nat.le_of_ble_eq_true rfl⟩)) (fun r_5 er_5 => ?_)
    have er_5 : r_5 = f_PC_cornerAfter co := er_5
    refine vp_callSi (va_Run.run (va_runS (As := [.int r_5]) (rest := [.int ix, .ref fa]) ⟨hx, hb, hml, hown, hts⟩ (c_PC_cornerAfter l dC dI cJ cI r_5) (va_cwS 1 hts (gd_S wd_199 wd_200 wd_33 wd_201) rfl rfl rfl (by decide +kernel) ⟨Nat.le_of_ble_eq_true rfl, Nat.le_of_ble_eq_true rfl⟩) ⟨fb_ro, pre_ro hK hN va_nil⟩ rfl rfl hl.1 rfl (lv_room (Nat.le_of_ble_eq_true rfl)) d_PC_isInside_54 ⟨Nat.le_of_ble_eq_true rfl, Nat.le_of_ble_eq_true rfl⟩)) (fun r_6 er_6 => ?_)
    have er_6 : r_6 = f_PC_cornerAfter r_5 := er_6
    have hPc := hP.sub (ws' := [(fa, .inr (2, [.ref fas, .ref fat, .ref faa, .int fan])), (fas, .inl (cI, 17, .inl faS)), (fat, .inl (cI, 17, .inl faT)), (faa, .inl (cI, 17, .inl faA))]) [9, 10, 11, 12] rfl
    refine vp_callSi (va_Run.run (va_runVN (As := [.int ix, .int r_6]) (rest := []) ⟨hx, hb, hml, hown, hts⟩ (c_Fa_corner l dC dI cJ cI fa fas fat faa fan faS faT faA ix r_6) (⟨va_cnB 2 hts (gd_0 wd_175) rfl rfl rfl (hN _ nw_13) (hts _ (mw wd_36)) (by decide +kernel) ⟨Nat.le_of_ble_eq_true rfl, Nat.le_of_ble_eq_true rfl⟩, (hts _ (mw wd_174)), (hts _ (mw wd_14))⟩) ⟨fb_ro, va_recv hK hPc (ci := 2) (q0 := 0) rfl rfl, pre_ro hK hN hPc⟩ rfl rfl hl.1 rfl (lv_room (Nat.le_of_ble_eq_true rfl)) d_PC_isInside_57 ⟨Nat.le_of_ble_eq_true rfl, Nat.le_of_ble_eq_true rfl⟩)) (fun r_7 er_7 => ?_)
    have er_7 : r_7 = f_Fa_corner fan faS faT ix r_6 := er_7
    refine lv_istore (lv' := [(8, .int r_7), (7, .int r_4), (5, .long r_1), (0, .ref ob), (1, .int ix), (2, .int co), (3, .int xx), (4, .int yy)]) hx hb d_PC_isInside_60 hl (by decide) rfl (fun ls hl => ?_)
    refine lv_aload_n hx hb d_PC_isInside_62 rfl (lv_at hl 3 rfl) ?_
    refine va_get (D := (dC, dI)) (ci := 0) (v := .ref pi) (C := R_PC) (T := F_PC) (N := 8) hx hb hts (fun w h => mw (i_PC w h)) hown hK hP 0 rfl rfl 6 (by decide) (hts _ (mw wd_87)) (fun _ h9 => h9) rfl d_PC_isInside_63 ?_
    refine lv_iload hx hb d_PC_isInside_66 (lv_at hl 0 rfl) ?_
    refine lv_iconst (v := 1) hx hb d_PC_isInside_68 (by decide) ?_
    have hPc := hP.sub (ws' := [(pi, .inr (1, [.ref pia, .int pin])), (pia, .inl (cJ, 114, .inr (.inl pif)))]) [7, 8] rfl
    refine vp_callSl (va_Run.run (va_runVN (As := [.int r_7, .int 1]) (rest := []) ⟨hx, hb, hml, hown, hts⟩ (c_Ri_at l dC dI cJ cI pi pia pin pif r_7 1) (⟨va_cnB 2 hts (gd_0 wd_136) rfl rfl rfl (hN _ nw_10) (hts _ (mw wd_35)) (by decide +kernel) ⟨Nat.le_of_ble_eq_true rfl, Nat.le_of_ble_eq_true rfl⟩, (hts _ (mw wd_135)), (hts _ (mw wd_5))⟩) ⟨fb_ro, va_recv hK hPc (ci := 1) (q0 := 0) rfl rfl, pre_ro hK hN hPc⟩ rfl rfl hl.1 rfl (lv_room (Nat.le_of_ble_eq_true rfl)) d_PC_isInside_69 ⟨Nat.le_of_ble_eq_true rfl, Nat.le_of_ble_eq_true rfl⟩)) (fun r_8 er_8 => ?_)
    have er_8 : r_8 = f_Ri_at pin pif r_7 1 := er_8
    refine lv_aload_n hx hb d_PC_isInside_72 rfl (lv_at hl 3 rfl) ?_
    refine va_get (D := (dC, dI)) (ci := 0) (v := .ref pi) (C := R_PC) (T := F_PC) (N := 8) hx hb hts (fun w h => mw (i_PC w h)) hown hK hP 0 rfl rfl 6 (by decide) (hts _ (mw wd_87)) (fun _ h9 => h9) rfl d_PC_isInside_73 ?_
    refine lv_iload hx hb d_PC_isInside_76 (lv_at hl 1 rfl) ?_
    refine lv_iconst (v := 1) hx hb d_PC_isInside_78 (by decide) ?_
    have hPc := hP.sub (ws' := [(pi, .inr (1, [.ref pia, .int pin])), (pia, .inl (cJ, 114, .inr (.inl pif)))]) [7, 8] rfl
    refine vp_callSl (va_Run.run (va_runVN (As := [.int r_4, .int 1]) (rest := [.long r_8]) ⟨hx, hb, hml, hown, hts⟩ (c_Ri_at l dC dI cJ cI pi pia pin pif r_4 1) (⟨va_cnB 2 hts (gd_0 wd_136) rfl rfl rfl (hN _ nw_10) (hts _ (mw wd_35)) (by decide +kernel) ⟨Nat.le_of_ble_eq_true rfl, Nat.le_of_ble_eq_true rfl⟩, (hts _ (mw wd_135)), (hts _ (mw wd_5))⟩) ⟨fb_ro, va_recv hK hPc (ci := 1) (q0 := 0) rfl rfl, pre_ro hK hN hPc⟩ rfl rfl hl.1 rfl (lv_room (Nat.le_of_ble_eq_true rfl)) d_PC_isInside_79 ⟨Nat.le_of_ble_eq_true rfl, Nat.le_of_ble_eq_true rfl⟩)) (fun r_9 er_9 => ?_)
    have er_9 : r_9 = f_Ri_at pin pif r_4 1 := er_9
    refine lv_lsub hx hb d_PC_isInside_82 ?_
    refine lv_topl (fun y_10 ey_10 => ?_)
    refine lv_lstore (lv' := [(9, .long y_10), (8, .int r_7), (7, .int r_4), (5, .long r_1), (0, .ref ob), (1, .int ix), (2, .int co), (3, .int xx), (4, .int yy)]) hx hb d_PC_isInside_83 hl (by decide) rfl (fun ls hl => ?_)
    refine lv_lload hx hb d_PC_isInside_85 (lv_at hl 0 rfl) ?_
    refine lv_lconst (v := 0) hx hb d_PC_isInside_87 (by decide) ?_
    refine W.lcmp hx hb d_PC_isInside_88 ?_
    refine lv_if_lt (tgt := 123) hx hb d_PC_isInside_89 (by decide) (fun c_11 => ?_) (fun c_11 => ?_)
    · rw [lg_cmp_lt] at c_11
      have c_11 : y_10 < 0 := c_11
      refine lv_iconst (v := 1) hx hb d_PC_isInside_123 (by decide) ?_
      refine lv_goto (tgt := 128) hx hb d_PC_isInside_124 (by decide) ?_
      subst er_1
      subst er_3
      subst er_4
      subst er_5
      subst er_6
      subst er_7
      subst er_8
      subst er_9
      subst ey_10
      exact W.zret (v := 1) hx hb hr (by decide) (fun t ht hW => ⟨_, rfl, by rw [f_PC_isInside, if_pos c_2, if_pos c_11], ht⟩) (fun q h => by cases h) d_PC_isInside_128
    · rw [lg_cmp_lt] at c_11
      have c_11 : ¬ (y_10 < 0) := c_11
      refine lv_lload hx hb d_PC_isInside_92 (lv_at hl 0 rfl) ?_
      refine lv_lconst (v := 0) hx hb d_PC_isInside_94 (by decide) ?_
      refine W.lcmp hx hb d_PC_isInside_95 ?_
      refine lv_if_ne (tgt := 127) hx hb d_PC_isInside_96 (by decide) (fun c_12 => ?_) (fun c_12 => ?_)
      · rw [lg_cmp_eq] at c_12
        have c_12 : ¬ (y_10 = 0) := c_12
        refine lv_iconst (v := 0) hx hb d_PC_isInside_127 (by decide) ?_
        subst er_1
        subst er_3
        subst er_4
        subst er_5
        subst er_6
        subst er_7
        subst er_8
        subst er_9
        subst ey_10
        exact W.zret (v := 0) hx hb hr (by decide) (fun t ht hW => ⟨_, rfl, by rw [f_PC_isInside, if_pos c_2, if_neg c_11, if_neg c_12], ht⟩) (fun q h => by cases h) d_PC_isInside_128
      · rw [lg_cmp_eq] at c_12
        have c_12 : y_10 = 0 := c_12
        refine lv_aload_n hx hb d_PC_isInside_99 rfl (lv_at hl 4 rfl) ?_
        refine va_get (D := (dC, dI)) (ci := 0) (v := .ref pi) (C := R_PC) (T := F_PC) (N := 8) hx hb hts (fun w h => mw (i_PC w h)) hown hK hP 0 rfl rfl 6 (by decide) (hts _ (mw wd_87)) (fun _ h9 => h9) rfl d_PC_isInside_100 ?_
        refine lv_iload hx hb d_PC_isInside_103 (lv_at hl 1 rfl) ?_
        refine lv_iconst (v := 0) hx hb d_PC_isInside_105 (by decide) ?_
        have hPc := hP.sub (ws' := [(pi, .inr (1, [.ref pia, .int pin])), (pia, .inl (cJ, 114, .inr (.inl pif)))]) [7, 8] rfl
        refine vp_callSl (va_Run.run (va_runVN (As := [.int r_7, .int 0]) (rest := []) ⟨hx, hb, hml, hown, hts⟩ (c_Ri_at l dC dI cJ cI pi pia pin pif r_7 0) (⟨va_cnB 2 hts (gd_0 wd_136) rfl rfl rfl (hN _ nw_10) (hts _ (mw wd_35)) (by decide +kernel) ⟨Nat.le_of_ble_eq_true rfl, Nat.le_of_ble_eq_true rfl⟩, (hts _ (mw wd_135)), (hts _ (mw wd_5))⟩) ⟨fb_ro, va_recv hK hPc (ci := 1) (q0 := 0) rfl rfl, pre_ro hK hN hPc⟩ rfl rfl hl.1 rfl (lv_room (Nat.le_of_ble_eq_true rfl)) d_PC_isInside_106 ⟨Nat.le_of_ble_eq_true rfl, Nat.le_of_ble_eq_true rfl⟩)) (fun r_13 er_13 => ?_)
        have er_13 : r_13 = f_Ri_at pin pif r_7 0 := er_13
        refine lv_aload_n hx hb d_PC_isInside_109 rfl (lv_at hl 4 rfl) ?_
        refine va_get (D := (dC, dI)) (ci := 0) (v := .ref pi) (C := R_PC) (T := F_PC) (N := 8) hx hb hts (fun w h => mw (i_PC w h)) hown hK hP 0 rfl rfl 6 (by decide) (hts _ (mw wd_87)) (fun _ h9 => h9) rfl d_PC_isInside_110 ?_
        refine lv_iload hx hb d_PC_isInside_113 (lv_at hl 2 rfl) ?_
        refine lv_iconst (v := 0) hx hb d_PC_isInside_115 (by decide) ?_
        have hPc := hP.sub (ws' := [(pi, .inr (1, [.ref pia, .int pin])), (pia, .inl (cJ, 114, .inr (.inl pif)))]) [7, 8] rfl
        refine vp_callSl (va_Run.run (va_runVN (As := [.int r_4, .int 0]) (rest := [.long r_13]) ⟨hx, hb, hml, hown, hts⟩ (c_Ri_at l dC dI cJ cI pi pia pin pif r_4 0) (⟨va_cnB 2 hts (gd_0 wd_136) rfl rfl rfl (hN _ nw_10) (hts _ (mw wd_35)) (by decide +kernel) ⟨Nat.le_of_ble_eq_true rfl, Nat.le_of_ble_eq_true rfl⟩, (hts _ (mw wd_135)), (hts _ (mw wd_5))⟩) ⟨fb_ro, va_recv hK hPc (ci := 1) (q0 := 0) rfl rfl, pre_ro hK hN hPc⟩ rfl rfl hl.1 rfl (lv_room (Nat.le_of_ble_eq_true rfl)) d_PC_isInside_116 ⟨Nat.le_of_ble_eq_true rfl, Nat.le_of_ble_eq_true rfl⟩)) (fun r_14 er_14 => ?_)
        have er_14 : r_14 = f_Ri_at pin pif r_4 0 := er_14
        refine W.lcmp hx hb d_PC_isInside_119 ?_
        refine lv_if_le (tgt := 127) hx hb d_PC_isInside_120 (by decide) (fun c_15 => ?_) (fun c_15 => ?_)
        · rw [lg_cmp_le] at c_15
          have c_15 : r_13 ≤ r_14 := c_15
          refine lv_iconst (v := 0) hx hb d_PC_isInside_127 (by decide) ?_
          subst er_1
          subst er_3
          subst er_4
          subst er_5
          subst er_6
          subst er_7
          subst er_8
          subst er_9
          subst ey_10
          subst er_13
          subst er_14
          exact W.zret (v := 0) hx hb hr (by decide) (fun t ht hW => ⟨_, rfl, by rw [f_PC_isInside, if_pos c_2, if_neg c_11, if_pos c_12, if_pos c_15], ht⟩) (fun q h => by cases h) d_PC_isInside_128
        · rw [lg_cmp_le] at c_15
          have c_15 : ¬ (r_13 ≤ r_14) := c_15
          refine lv_iconst (v := 1) hx hb d_PC_isInside_123 (by decide) ?_
          refine lv_goto (tgt := 128) hx hb d_PC_isInside_124 (by decide) ?_
          subst er_1
          subst er_3
          subst er_4
          subst er_5
          subst er_6
          subst er_7
          subst er_8
          subst er_9
          subst ey_10
          subst er_13
          subst er_14
          exact W.zret (v := 1) hx hb hr (by decide) (fun t ht hW => ⟨_, rfl, by rw [f_PC_isInside, if_pos c_2, if_neg c_11, if_pos c_12, if_neg c_15], ht⟩) (fun q h => by cases h) d_PC_isInside_128
  · rw [lg_cmp_eq] at c_2
    have c_2 : ¬ (r_1 = 0) := c_2
    refine lv_lload hx hb d_PC_isInside_18 (lv_at hl 0 rfl) ?_
    refine lv_lconst (v := 0) hx hb d_PC_isInside_20 (by decide) ?_
    refine W.lcmp hx hb d_PC_isInside_21 ?_
    refine lv_if_le (tgt := 29) hx hb d_PC_isInside_22 (by decide) (fun c_16 => ?_) (fun c_16 => ?_)
    · rw [lg_cmp_le] at c_16
      have c_16 : r_1 ≤ 0 := c_16
      refine lv_iconst (v := 0) hx hb d_PC_isInside_29 (by decide) ?_
      subst er_1
      exact W.zret (v := 0) hx hb hr (by decide) (fun t ht hW => ⟨_, rfl, by rw [f_PC_isInside, if_neg c_2, if_pos c_16], ht⟩) (fun q h => by cases h) d_PC_isInside_30
    · rw [lg_cmp_le] at c_16
      have c_16 : ¬ (r_1 ≤ 0) := c_16
      refine lv_iconst (v := 1) hx hb d_PC_isInside_25 (by decide) ?_
      refine lv_goto (tgt := 30) hx hb d_PC_isInside_26 (by decide) ?_
      subst er_1
      exact W.zret (v := 1) hx hb hr (by decide) (fun t ht hW => ⟨_, rfl, by rw [f_PC_isInside, if_neg c_2, if_neg c_16], ht⟩) (fun q h => by cases h) d_PC_isInside_30
def f_PC_covers (wi : Int32) (hi : Int32) (pin : Int32) (pif : Nat → Int64) (fan : Int32) (faS : Nat → Int32) (faT : Nat → Int32) (ix : Int32) (xx : Int32) (yy : Int32) : Int32 := if (f_PC_isPixel wi hi xx yy) = 0 then 0 else (if (f_Fa_has fan ix) = 0 then 0 else (if (f_PC_isInside pin pif fan faS faT ix 0 xx yy) = 0 then 0 else (if (f_PC_isInside pin pif fan faS faT ix 1 xx yy) = 0 then 0 else (if (f_PC_isInside pin pif fan faS faT ix 2 xx yy) = 0 then 0 else 1))))
set_option maxHeartbeats 4000000 in
set_option maxRecDepth 100000 in
theorem c_PC_covers (l : Launch) (dC : Nat → ClassId) (dI : Nat → Nat → Nat) (cJ cI : ClassId) (ob : Nat) (wi : Int32) (hi : Int32) (fo : Int32) (gi : Nat) (gia : Nat) (gin : Int32) (gif : Nat → Int64) (ke : Nat) (kea : Nat) (ken : Int32) (kef : Nat → Int64) (sp : Nat) (spa : Nat) (spn : Int32) (spf : Nat → Int64) (pi : Nat) (pia : Nat) (pin : Int32) (pif : Nat → Int64) (fa : Nat) (fas : Nat) (fat : Nat) (faa : Nat) (fan : Int32) (faS : Nat → Int32) (faT : Nat → Int32) (faA : Nat → Int32) (ix : Int32) (xx : Int32) (yy : Int32) : Met l y_PC_covers w_PC_covers ({ frames := 4, cells := 0, slots := 0, locals := 103 } : Room) (rq_ro (dC, dI) cJ cI [.ref ob, .int ix, .int xx, .int yy] [(ob, .inr (0, [.int wi, .int hi, .int fo, .ref gi, .ref ke, .ref sp, .ref pi, .ref fa])), (gi, .inr (1, [.ref gia, .int gin])), (gia, .inl (cJ, 114, .inr (.inl gif))), (ke, .inr (1, [.ref kea, .int ken])), (kea, .inl (cJ, 114, .inr (.inl kef))), (sp, .inr (1, [.ref spa, .int spn])), (spa, .inl (cJ, 114, .inr (.inl spf))), (pi, .inr (1, [.ref pia, .int pin])), (pia, .inl (cJ, 114, .inr (.inl pif))), (fa, .inr (2, [.ref fas, .ref fat, .ref faa, .int fan])), (fas, .inl (cI, 17, .inl faS)), (fat, .inl (cI, 17, .inl faT)), (faa, .inl (cI, 17, .inl faA))]) (vp_Si (fun r => r = f_PC_covers wi hi pin pif fan faS faT ix xx yy)) 0 0 (fun _ => False) := by
  refine Met.ofW (cc := b_PC_covers) (maxL := 5) (ret := (some .boolean)) (by decide) rfl ?_
  intro p e s m args below meth c s₁ B hml hv
  obtain ⟨rfl, hP, hK, hN⟩ := hv
  have hx := B.exec
  have hb := B.bytes
  have hr := B.returns
  have hts := atoms_spec (ws := w_PC_covers) B.pre
  have hown : s.vm.findClass R_PC = some m.cls := findClass_of_methodNamed B.named
  have hlocks := B.notSynchronized
  have hl := lv_entry ([.ref ob, .int ix, .int xx, .int yy]) (n := 5) (Nat.le_of_ble_eq_true rfl)
  rw [lg_entry_eq]
  generalize (lg_sl ([.ref ob, .int ix, .int xx, .int yy]) ++ List.replicate (5 - (lg_sl ([.ref ob, .int ix, .int xx, .int yy])).length) Slot.unset).toArray = ls at hl ⊢
  have hl : lv_has ls 5 [(0, .ref ob), (1, .int ix), (2, .int xx), (3, .int yy)] := hl
  refine lv_aload_n hx hb d_PC_covers_0 rfl (lv_at hl 0 rfl) ?_
  refine lv_iload_n hx hb d_PC_covers_1 rfl (lv_at hl 2 rfl) ?_
  refine lv_iload_n hx hb d_PC_covers_2 rfl (lv_at hl 3 rfl) ?_
  have hPc := hP
  refine vp_callSi (va_Run.run (va_runV (As := [.int xx, .int yy]) (rest := []) ⟨hx, hb, hml, hown, hts⟩ (c_PC_isPixel l dC dI cJ cI ob wi hi fo gi gia gin gif ke kea ken kef sp spa spn spf pi pia pin pif fa fas fat faa fan faS faT faA xx yy) (cwV 2 hts (gd_V wd_190 wd_191 wd_17 wd_33 wd_192) rfl rfl rfl (by decide +kernel) ⟨Nat.le_of_ble_eq_true rfl, Nat.le_of_ble_eq_true rfl⟩) ⟨fb_ro, va_recv hK hPc (ci := 0) (q0 := 0) rfl rfl, pre_ro hK hN hPc⟩ rfl rfl hl.1 rfl (lv_room (Nat.le_of_ble_eq_true rfl)) d_PC_covers_3 ⟨Nat.le_of_ble_eq_true rfl, Nat.le_of_ble_eq_true rfl⟩)) (fun r_1 er_1 => ?_)
  have er_1 : r_1 = f_PC_isPixel wi hi xx yy := er_1
  refine lv_if_eq (tgt := 20) hx hb d_PC_covers_6 (by decide) (fun c_2 => ?_) (fun c_2 => ?_)
  · have c_2 : r_1 = 0 := c_2
    refine lv_iconst (v := 0) hx hb d_PC_covers_20 (by decide) ?_
    subst er_1
    exact W.zret (v := 0) hx hb hr (by decide) (fun t ht hW => ⟨_, rfl, by rw [f_PC_covers, if_pos c_2], ht⟩) (fun q h => by cases h) d_PC_covers_21
  · have c_2 : ¬ (r_1 = 0) := c_2
    refine lv_aload_n hx hb d_PC_covers_9 rfl (lv_at hl 0 rfl) ?_
    refine va_get (D := (dC, dI)) (ci := 0) (v := .ref fa) (C := R_PC) (T := F_PC) (N := 8) hx hb hts (fun w h => mw (i_PC w h)) hown hK hP 0 rfl rfl 7 (by decide) (hts _ (mw wd_88)) (fun _ h9 => h9) rfl d_PC_covers_10 ?_
    refine lv_iload_n hx hb d_PC_covers_13 rfl (lv_at hl 1 rfl) ?_
    have hPc := hP.sub (ws' := [(fa, .inr (2, [.ref fas, .ref fat, .ref faa, .int fan])), (fas, .inl (cI, 17, .inl faS)), (fat, .inl (cI, 17, .inl faT)), (faa, .inl (cI, 17, .inl faA))]) [9, 10, 11, 12] rfl
    refine vp_callSi (va_Run.run (va_runVN (As := [.int ix]) (rest := []) ⟨hx, hb, hml, hown, hts⟩ (c_Fa_has l dC dI cJ cI fa fas fat faa fan faS faT faA ix) (⟨va_cnB 1 hts (gd_0 wd_178) rfl rfl rfl (hN _ nw_14) (hts _ (mw wd_36)) (by decide +kernel) ⟨Nat.le_of_ble_eq_true rfl, Nat.le_of_ble_eq_true rfl⟩, (hts _ (mw wd_177)), (hts _ (mw wd_15))⟩) ⟨fb_ro, va_recv hK hPc (ci := 2) (q0 := 0) rfl rfl, pre_ro hK hN hPc⟩ rfl rfl hl.1 rfl (lv_room (Nat.le_of_ble_eq_true rfl)) d_PC_covers_14 ⟨Nat.le_of_ble_eq_true rfl, Nat.le_of_ble_eq_true rfl⟩)) (fun r_3 er_3 => ?_)
    have er_3 : r_3 = f_Fa_has fan ix := er_3
    refine lv_if_ne (tgt := 22) hx hb d_PC_covers_17 (by decide) (fun c_4 => ?_) (fun c_4 => ?_)
    · have c_4 : ¬ (r_3 = 0) := c_4
      refine lv_iconst (v := 0) hx hb d_PC_covers_22 (by decide) ?_
      refine lv_istore (lv' := [(4, .int 0), (0, .ref ob), (1, .int ix), (2, .int xx), (3, .int yy)]) hx hb d_PC_covers_23 hl (by decide) rfl (fun ls hl => ?_)
      refine lv_iload hx hb d_PC_covers_25 (lv_at hl 0 rfl) ?_
      refine lv_iconst (v := 3) hx hb d_PC_covers_27 (by decide) ?_
      refine lv_icmp_ge (tgt := 51) hx hb d_PC_covers_28 (by decide) (fun c_5 => absurd c_5 (by decide)) (fun _ => ?_)
      refine lv_aload_n hx hb d_PC_covers_31 rfl (lv_at hl 1 rfl) ?_
      refine lv_iload_n hx hb d_PC_covers_32 rfl (lv_at hl 2 rfl) ?_
      refine lv_iload hx hb d_PC_covers_33 (lv_at hl 0 rfl) ?_
      refine lv_iload_n hx hb d_PC_covers_35 rfl (lv_at hl 3 rfl) ?_
      refine lv_iload_n hx hb d_PC_covers_36 rfl (lv_at hl 4 rfl) ?_
      have hPc := hP
      refine vp_callSi (va_Run.run (va_runV (As := [.int ix, .int 0, .int xx, .int yy]) (rest := []) ⟨hx, hb, hml, hown, hts⟩ (c_PC_isInside l dC dI cJ cI ob wi hi fo gi gia gin gif ke kea ken kef sp spa spn spf pi pia pin pif fa fas fat faa fan faS faT faA ix 0 xx yy) (cwV 4 hts (gd_V wd_193 wd_194 wd_18 wd_33 wd_195) rfl rfl rfl (by decide +kernel) ⟨Nat.le_of_ble_eq_true rfl, Nat.le_of_ble_eq_true rfl⟩) ⟨fb_ro, va_recv hK hPc (ci := 0) (q0 := 0) rfl rfl, pre_ro hK hN hPc⟩ rfl rfl hl.1 rfl (lv_room (Nat.le_of_ble_eq_true rfl)) d_PC_covers_37 ⟨Nat.le_of_ble_eq_true rfl, Nat.le_of_ble_eq_true rfl⟩)) (fun r_6 er_6 => ?_)
      have er_6 : r_6 = f_PC_isInside pin pif fan faS faT ix 0 xx yy := er_6
      refine lv_if_ne (tgt := 45) hx hb d_PC_covers_40 (by decide) (fun c_7 => ?_) (fun c_7 => ?_)
      · have c_7 : ¬ (r_6 = 0) := c_7
        refine lv_iinc (v := 1) (lv' := [(4, .int 1), (0, .ref ob), (1, .int ix), (2, .int xx), (3, .int yy)]) hx hb d_PC_covers_45 hl (k := 0) rfl (by decide) (by decide) rfl (fun ls hl => ?_)
        refine lv_goto (tgt := 25) hx hb d_PC_covers_48 (by decide) ?_
        refine lv_iload hx hb d_PC_covers_25 (lv_at hl 0 rfl) ?_
        refine lv_iconst (v := 3) hx hb d_PC_covers_27 (by decide) ?_
        refine lv_icmp_ge (tgt := 51) hx hb d_PC_covers_28 (by decide) (fun c_8 => absurd c_8 (by decide)) (fun _ => ?_)
        refine lv_aload_n hx hb d_PC_covers_31 rfl (lv_at hl 1 rfl) ?_
        refine lv_iload_n hx hb d_PC_covers_32 rfl (lv_at hl 2 rfl) ?_
        refine lv_iload hx hb d_PC_covers_33 (lv_at hl 0 rfl) ?_
        refine lv_iload_n hx hb d_PC_covers_35 rfl (lv_at hl 3 rfl) ?_
        refine lv_iload_n hx hb d_PC_covers_36 rfl (lv_at hl 4 rfl) ?_
        have hPc := hP
        refine vp_callSi (va_Run.run (va_runV (As := [.int ix, .int 1, .int xx, .int yy]) (rest := []) ⟨hx, hb, hml, hown, hts⟩ (c_PC_isInside l dC dI cJ cI ob wi hi fo gi gia gin gif ke kea ken kef sp spa spn spf pi pia pin pif fa fas fat faa fan faS faT faA ix 1 xx yy) (cwV 4 hts (gd_V wd_193 wd_194 wd_18 wd_33 wd_195) rfl rfl rfl (by decide +kernel) ⟨Nat.le_of_ble_eq_true rfl, Nat.le_of_ble_eq_true rfl⟩) ⟨fb_ro, va_recv hK hPc (ci := 0) (q0 := 0) rfl rfl, pre_ro hK hN hPc⟩ rfl rfl hl.1 rfl (lv_room (Nat.le_of_ble_eq_true rfl)) d_PC_covers_37 ⟨Nat.le_of_ble_eq_true rfl, Nat.le_of_ble_eq_true rfl⟩)) (fun r_9 er_9 => ?_)
        have er_9 : r_9 = f_PC_isInside pin pif fan faS faT ix 1 xx yy := er_9
        refine lv_if_ne (tgt := 45) hx hb d_PC_covers_40 (by decide) (fun c_10 => ?_) (fun c_10 => ?_)
        · have c_10 : ¬ (r_9 = 0) := c_10
          refine lv_iinc (v := 2) (lv' := [(4, .int 2), (0, .ref ob), (1, .int ix), (2, .int xx), (3, .int yy)]) hx hb d_PC_covers_45 hl (k := 0) rfl (by decide) (by decide) rfl (fun ls hl => ?_)
          refine lv_goto (tgt := 25) hx hb d_PC_covers_48 (by decide) ?_
          refine lv_iload hx hb d_PC_covers_25 (lv_at hl 0 rfl) ?_
          refine lv_iconst (v := 3) hx hb d_PC_covers_27 (by decide) ?_
          refine lv_icmp_ge (tgt := 51) hx hb d_PC_covers_28 (by decide) (fun c_11 => absurd c_11 (by decide)) (fun _ => ?_)
          refine lv_aload_n hx hb d_PC_covers_31 rfl (lv_at hl 1 rfl) ?_
          refine lv_iload_n hx hb d_PC_covers_32 rfl (lv_at hl 2 rfl) ?_
          refine lv_iload hx hb d_PC_covers_33 (lv_at hl 0 rfl) ?_
          refine lv_iload_n hx hb d_PC_covers_35 rfl (lv_at hl 3 rfl) ?_
          refine lv_iload_n hx hb d_PC_covers_36 rfl (lv_at hl 4 rfl) ?_
          have hPc := hP
          refine vp_callSi (va_Run.run (va_runV (As := [.int ix, .int 2, .int xx, .int yy]) (rest := []) ⟨hx, hb, hml, hown, hts⟩ (c_PC_isInside l dC dI cJ cI ob wi hi fo gi gia gin gif ke kea ken kef sp spa spn spf pi pia pin pif fa fas fat faa fan faS faT faA ix 2 xx yy) (cwV 4 hts (gd_V wd_193 wd_194 wd_18 wd_33 wd_195) rfl rfl rfl (by decide +kernel) ⟨Nat.le_of_ble_eq_true rfl, Nat.le_of_ble_eq_true rfl⟩) ⟨fb_ro, va_recv hK hPc (ci := 0) (q0 := 0) rfl rfl, pre_ro hK hN hPc⟩ rfl rfl hl.1 rfl (lv_room (Nat.le_of_ble_eq_true rfl)) d_PC_covers_37 ⟨Nat.le_of_ble_eq_true rfl, Nat.le_of_ble_eq_true rfl⟩)) (fun r_12 er_12 => ?_)
          have er_12 : r_12 = f_PC_isInside pin pif fan faS faT ix 2 xx yy := er_12
          refine lv_if_ne (tgt := 45) hx hb d_PC_covers_40 (by decide) (fun c_13 => ?_) (fun c_13 => ?_)
          · have c_13 : ¬ (r_12 = 0) := c_13
            refine lv_iinc (v := 3) (lv' := [(4, .int 3), (0, .ref ob), (1, .int ix), (2, .int xx), (3, .int yy)]) hx hb d_PC_covers_45 hl (k := 0) rfl (by decide) (by decide) rfl (fun ls hl => ?_)
            refine lv_goto (tgt := 25) hx hb d_PC_covers_48 (by decide) ?_
            refine lv_iload hx hb d_PC_covers_25 (lv_at hl 0 rfl) ?_
            refine lv_iconst (v := 3) hx hb d_PC_covers_27 (by decide) ?_
            refine lv_icmp_ge (tgt := 51) hx hb d_PC_covers_28 (by decide) (fun _ => ?_) (fun c_14 => absurd (by decide) c_14)
            refine lv_iconst (v := 1) hx hb d_PC_covers_51 (by decide) ?_
            subst er_1
            subst er_3
            subst er_6
            subst er_9
            subst er_12
            exact W.zret (v := 1) hx hb hr (by decide) (fun t ht hW => ⟨_, rfl, by rw [f_PC_covers, if_neg c_2, if_neg c_4, if_neg c_7, if_neg c_10, if_neg c_13], ht⟩) (fun q h => by cases h) d_PC_covers_52
          · have c_13 : r_12 = 0 := c_13
            refine lv_iconst (v := 0) hx hb d_PC_covers_43 (by decide) ?_
            subst er_1
            subst er_3
            subst er_6
            subst er_9
            subst er_12
            exact W.zret (v := 0) hx hb hr (by decide) (fun t ht hW => ⟨_, rfl, by rw [f_PC_covers, if_neg c_2, if_neg c_4, if_neg c_7, if_neg c_10, if_pos c_13], ht⟩) (fun q h => by cases h) d_PC_covers_44
        · have c_10 : r_9 = 0 := c_10
          refine lv_iconst (v := 0) hx hb d_PC_covers_43 (by decide) ?_
          subst er_1
          subst er_3
          subst er_6
          subst er_9
          exact W.zret (v := 0) hx hb hr (by decide) (fun t ht hW => ⟨_, rfl, by rw [f_PC_covers, if_neg c_2, if_neg c_4, if_neg c_7, if_pos c_10], ht⟩) (fun q h => by cases h) d_PC_covers_44
      · have c_7 : r_6 = 0 := c_7
        refine lv_iconst (v := 0) hx hb d_PC_covers_43 (by decide) ?_
        subst er_1
        subst er_3
        subst er_6
        exact W.zret (v := 0) hx hb hr (by decide) (fun t ht hW => ⟨_, rfl, by rw [f_PC_covers, if_neg c_2, if_neg c_4, if_pos c_7], ht⟩) (fun q h => by cases h) d_PC_covers_44
    · have c_4 : r_3 = 0 := c_4
      refine lv_iconst (v := 0) hx hb d_PC_covers_20 (by decide) ?_
      subst er_1
      subst er_3
      exact W.zret (v := 0) hx hb hr (by decide) (fun t ht hW => ⟨_, rfl, by rw [f_PC_covers, if_neg c_2, if_pos c_4], ht⟩) (fun q h => by cases h) d_PC_covers_21
def f_PC_weight (pin : Int32) (pif : Nat → Int64) (fan : Int32) (faS : Nat → Int32) (faT : Nat → Int32) (ix : Int32) (co : Int32) (xx : Int32) (yy : Int32) : Int64 := (f_PC_edgeNumber pin pif fan faS faT ix co xx yy) * (f_Ri_at pin pif (f_Fa_corner fan faS faT ix co) 2)
set_option maxHeartbeats 4000000 in
set_option maxRecDepth 100000 in
theorem c_PC_weight (l : Launch) (dC : Nat → ClassId) (dI : Nat → Nat → Nat) (cJ cI : ClassId) (ob : Nat) (wi : Int32) (hi : Int32) (fo : Int32) (gi : Nat) (gia : Nat) (gin : Int32) (gif : Nat → Int64) (ke : Nat) (kea : Nat) (ken : Int32) (kef : Nat → Int64) (sp : Nat) (spa : Nat) (spn : Int32) (spf : Nat → Int64) (pi : Nat) (pia : Nat) (pin : Int32) (pif : Nat → Int64) (fa : Nat) (fas : Nat) (fat : Nat) (faa : Nat) (fan : Int32) (faS : Nat → Int32) (faT : Nat → Int32) (faA : Nat → Int32) (ix : Int32) (co : Int32) (xx : Int32) (yy : Int32) : Met l y_PC_weight w_PC_weight ({ frames := 3, cells := 0, slots := 0, locals := 73 } : Room) (rq_ro (dC, dI) cJ cI [.ref ob, .int ix, .int co, .int xx, .int yy] [(ob, .inr (0, [.int wi, .int hi, .int fo, .ref gi, .ref ke, .ref sp, .ref pi, .ref fa])), (gi, .inr (1, [.ref gia, .int gin])), (gia, .inl (cJ, 114, .inr (.inl gif))), (ke, .inr (1, [.ref kea, .int ken])), (kea, .inl (cJ, 114, .inr (.inl kef))), (sp, .inr (1, [.ref spa, .int spn])), (spa, .inl (cJ, 114, .inr (.inl spf))), (pi, .inr (1, [.ref pia, .int pin])), (pia, .inl (cJ, 114, .inr (.inl pif))), (fa, .inr (2, [.ref fas, .ref fat, .ref faa, .int fan])), (fas, .inl (cI, 17, .inl faS)), (fat, .inl (cI, 17, .inl faT)), (faa, .inl (cI, 17, .inl faA))]) (vp_Sl (fun r => r = f_PC_weight pin pif fan faS faT ix co xx yy)) 0 0 (fun _ => False) := by
  refine Met.ofW (cc := b_PC_weight) (maxL := 5) (ret := (some .long)) (by decide) rfl ?_
  intro p e s m args below meth c s₁ B hml hv
  obtain ⟨rfl, hP, hK, hN⟩ := hv
  have hx := B.exec
  have hb := B.bytes
  have hr := B.returns
  have hts := atoms_spec (ws := w_PC_weight) B.pre
  have hown : s.vm.findClass R_PC = some m.cls := findClass_of_methodNamed B.named
  have hlocks := B.notSynchronized
  have hl := lv_entry ([.ref ob, .int ix, .int co, .int xx, .int yy]) (n := 5) (Nat.le_of_ble_eq_true rfl)
  rw [lg_entry_eq]
  generalize (lg_sl ([.ref ob, .int ix, .int co, .int xx, .int yy]) ++ List.replicate (5 - (lg_sl ([.ref ob, .int ix, .int co, .int xx, .int yy])).length) Slot.unset).toArray = ls at hl ⊢
  have hl : lv_has ls 5 [(0, .ref ob), (1, .int ix), (2, .int co), (3, .int xx), (4, .int yy)] := hl
  refine lv_aload_n hx hb d_PC_weight_0 rfl (lv_at hl 0 rfl) ?_
  refine lv_iload_n hx hb d_PC_weight_1 rfl (lv_at hl 1 rfl) ?_
  refine lv_iload_n hx hb d_PC_weight_2 rfl (lv_at hl 2 rfl) ?_
  refine lv_iload_n hx hb d_PC_weight_3 rfl (lv_at hl 3 rfl) ?_
  refine lv_iload hx hb d_PC_weight_4 (lv_at hl 4 rfl) ?_
  have hPc := hP
  refine vp_callSl (va_Run.run (va_runV (As := [.int ix, .int co, .int xx, .int yy]) (rest := []) ⟨hx, hb, hml, hown, hts⟩ (c_PC_edgeNumber l dC dI cJ cI ob wi hi fo gi gia gin gif ke kea ken kef sp spa spn spf pi pia pin pif fa fas fat faa fan faS faT faA ix co xx yy) (cwV 4 hts (gd_V wd_196 wd_197 wd_19 wd_33 wd_198) rfl rfl rfl (by decide +kernel) ⟨Nat.le_of_ble_eq_true rfl, Nat.le_of_ble_eq_true rfl⟩) ⟨fb_ro, va_recv hK hPc (ci := 0) (q0 := 0) rfl rfl, pre_ro hK hN hPc⟩ rfl rfl hl.1 rfl (lv_room (Nat.le_of_ble_eq_true rfl)) d_PC_weight_6 ⟨Nat.le_of_ble_eq_true rfl, Nat.le_of_ble_eq_true rfl⟩)) (fun r_1 er_1 => ?_)
  have er_1 : r_1 = f_PC_edgeNumber pin pif fan faS faT ix co xx yy := er_1
  refine lv_aload_n hx hb d_PC_weight_9 rfl (lv_at hl 0 rfl) ?_
  refine va_get (D := (dC, dI)) (ci := 0) (v := .ref pi) (C := R_PC) (T := F_PC) (N := 8) hx hb hts (fun w h => mw (i_PC w h)) hown hK hP 0 rfl rfl 6 (by decide) (hts _ (mw wd_87)) (fun _ h9 => h9) rfl d_PC_weight_10 ?_
  refine lv_aload_n hx hb d_PC_weight_13 rfl (lv_at hl 0 rfl) ?_
  refine va_get (D := (dC, dI)) (ci := 0) (v := .ref fa) (C := R_PC) (T := F_PC) (N := 8) hx hb hts (fun w h => mw (i_PC w h)) hown hK hP 0 rfl rfl 7 (by decide) (hts _ (mw wd_88)) (fun _ h9 => h9) rfl d_PC_weight_14 ?_
  refine lv_iload_n hx hb d_PC_weight_17 rfl (lv_at hl 1 rfl) ?_
  refine lv_iload_n hx hb d_PC_weight_18 rfl (lv_at hl 2 rfl) ?_
  have hPc := hP.sub (ws' := [(fa, .inr (2, [.ref fas, .ref fat, .ref faa, .int fan])), (fas, .inl (cI, 17, .inl faS)), (fat, .inl (cI, 17, .inl faT)), (faa, .inl (cI, 17, .inl faA))]) [9, 10, 11, 12] rfl
  refine vp_callSi (va_Run.run (va_runVN (As := [.int ix, .int co]) (rest := [.ref pi, .long r_1]) ⟨hx, hb, hml, hown, hts⟩ (c_Fa_corner l dC dI cJ cI fa fas fat faa fan faS faT faA ix co) (⟨va_cnB 2 hts (gd_0 wd_175) rfl rfl rfl (hN _ nw_13) (hts _ (mw wd_36)) (by decide +kernel) ⟨Nat.le_of_ble_eq_true rfl, Nat.le_of_ble_eq_true rfl⟩, (hts _ (mw wd_174)), (hts _ (mw wd_14))⟩) ⟨fb_ro, va_recv hK hPc (ci := 2) (q0 := 0) rfl rfl, pre_ro hK hN hPc⟩ rfl rfl hl.1 rfl (lv_room (Nat.le_of_ble_eq_true rfl)) d_PC_weight_19 ⟨Nat.le_of_ble_eq_true rfl, Nat.le_of_ble_eq_true rfl⟩)) (fun r_2 er_2 => ?_)
  have er_2 : r_2 = f_Fa_corner fan faS faT ix co := er_2
  refine lv_iconst (v := 2) hx hb d_PC_weight_22 (by decide) ?_
  have hPc := hP.sub (ws' := [(pi, .inr (1, [.ref pia, .int pin])), (pia, .inl (cJ, 114, .inr (.inl pif)))]) [7, 8] rfl
  refine vp_callSl (va_Run.run (va_runVN (As := [.int r_2, .int 2]) (rest := [.long r_1]) ⟨hx, hb, hml, hown, hts⟩ (c_Ri_at l dC dI cJ cI pi pia pin pif r_2 2) (⟨va_cnB 2 hts (gd_0 wd_136) rfl rfl rfl (hN _ nw_10) (hts _ (mw wd_35)) (by decide +kernel) ⟨Nat.le_of_ble_eq_true rfl, Nat.le_of_ble_eq_true rfl⟩, (hts _ (mw wd_135)), (hts _ (mw wd_5))⟩) ⟨fb_ro, va_recv hK hPc (ci := 1) (q0 := 0) rfl rfl, pre_ro hK hN hPc⟩ rfl rfl hl.1 rfl (lv_room (Nat.le_of_ble_eq_true rfl)) d_PC_weight_23 ⟨Nat.le_of_ble_eq_true rfl, Nat.le_of_ble_eq_true rfl⟩)) (fun r_3 er_3 => ?_)
  have er_3 : r_3 = f_Ri_at pin pif r_2 2 := er_3
  refine lv_lmul hx hb d_PC_weight_26 ?_
  subst er_1
  subst er_2
  subst er_3
  exact W.lret (v := (f_PC_edgeNumber pin pif fan faS faT ix co xx yy) * (f_Ri_at pin pif (f_Fa_corner fan faS faT ix co) 2)) hx hb hr (fun t ht hW => ⟨_, rfl, rfl, ht⟩) (fun q h => by cases h) d_PC_weight_27
def f_PC_weightSum (pin : Int32) (pif : Nat → Int64) (fan : Int32) (faS : Nat → Int32) (faT : Nat → Int32) (ix : Int32) (xx : Int32) (yy : Int32) : Int64 := ((f_PC_weight pin pif fan faS faT ix 0 xx yy) + (f_PC_weight pin pif fan faS faT ix 1 xx yy)) + (f_PC_weight pin pif fan faS faT ix 2 xx yy)
set_option maxHeartbeats 4000000 in
set_option maxRecDepth 100000 in
theorem c_PC_weightSum (l : Launch) (dC : Nat → ClassId) (dI : Nat → Nat → Nat) (cJ cI : ClassId) (ob : Nat) (wi : Int32) (hi : Int32) (fo : Int32) (gi : Nat) (gia : Nat) (gin : Int32) (gif : Nat → Int64) (ke : Nat) (kea : Nat) (ken : Int32) (kef : Nat → Int64) (sp : Nat) (spa : Nat) (spn : Int32) (spf : Nat → Int64) (pi : Nat) (pia : Nat) (pin : Int32) (pif : Nat → Int64) (fa : Nat) (fas : Nat) (fat : Nat) (faa : Nat) (fan : Int32) (faS : Nat → Int32) (faT : Nat → Int32) (faA : Nat → Int32) (ix : Int32) (xx : Int32) (yy : Int32) : Met l y_PC_weightSum w_PC_weightSum ({ frames := 4, cells := 0, slots := 0, locals := 97 } : Room) (rq_ro (dC, dI) cJ cI [.ref ob, .int ix, .int xx, .int yy] [(ob, .inr (0, [.int wi, .int hi, .int fo, .ref gi, .ref ke, .ref sp, .ref pi, .ref fa])), (gi, .inr (1, [.ref gia, .int gin])), (gia, .inl (cJ, 114, .inr (.inl gif))), (ke, .inr (1, [.ref kea, .int ken])), (kea, .inl (cJ, 114, .inr (.inl kef))), (sp, .inr (1, [.ref spa, .int spn])), (spa, .inl (cJ, 114, .inr (.inl spf))), (pi, .inr (1, [.ref pia, .int pin])), (pia, .inl (cJ, 114, .inr (.inl pif))), (fa, .inr (2, [.ref fas, .ref fat, .ref faa, .int fan])), (fas, .inl (cI, 17, .inl faS)), (fat, .inl (cI, 17, .inl faT)), (faa, .inl (cI, 17, .inl faA))]) (vp_Sl (fun r => r = f_PC_weightSum pin pif fan faS faT ix xx yy)) 0 0 (fun _ => False) := by
  refine Met.ofW (cc := b_PC_weightSum) (maxL := 4) (ret := (some .long)) (by decide) rfl ?_
  intro p e s m args below meth c s₁ B hml hv
  obtain ⟨rfl, hP, hK, hN⟩ := hv
  have hx := B.exec
  have hb := B.bytes
  have hr := B.returns
  have hts := atoms_spec (ws := w_PC_weightSum) B.pre
  have hown : s.vm.findClass R_PC = some m.cls := findClass_of_methodNamed B.named
  have hlocks := B.notSynchronized
  have hl := lv_entry ([.ref ob, .int ix, .int xx, .int yy]) (n := 4) (Nat.le_of_ble_eq_true rfl)
  rw [lg_entry_eq]
  generalize (lg_sl ([.ref ob, .int ix, .int xx, .int yy]) ++ List.replicate (4 - (lg_sl ([.ref ob, .int ix, .int xx, .int yy])).length) Slot.unset).toArray = ls at hl ⊢
  have hl : lv_has ls 4 [(0, .ref ob), (1, .int ix), (2, .int xx), (3, .int yy)] := hl
  refine lv_aload_n hx hb d_PC_weightSum_0 rfl (lv_at hl 0 rfl) ?_
  refine lv_iload_n hx hb d_PC_weightSum_1 rfl (lv_at hl 1 rfl) ?_
  refine lv_iconst (v := 0) hx hb d_PC_weightSum_2 (by decide) ?_
  refine lv_iload_n hx hb d_PC_weightSum_3 rfl (lv_at hl 2 rfl) ?_
  refine lv_iload_n hx hb d_PC_weightSum_4 rfl (lv_at hl 3 rfl) ?_
  have hPc := hP
  refine vp_callSl (va_Run.run (va_runV (As := [.int ix, .int 0, .int xx, .int yy]) (rest := []) ⟨hx, hb, hml, hown, hts⟩ (c_PC_weight l dC dI cJ cI ob wi hi fo gi gia gin gif ke kea ken kef sp spa spn spf pi pia pin pif fa fas fat faa fan faS faT faA ix 0 xx yy) (cwV 4 hts (gd_V wd_216 wd_217 wd_21 wd_33 wd_218) rfl rfl rfl (by decide +kernel) ⟨Nat.le_of_ble_eq_true rfl, Nat.le_of_ble_eq_true rfl⟩) ⟨fb_ro, va_recv hK hPc (ci := 0) (q0 := 0) rfl rfl, pre_ro hK hN hPc⟩ rfl rfl hl.1 rfl (lv_room (Nat.le_of_ble_eq_true rfl)) d_PC_weightSum_5 ⟨Nat.le_of_ble_eq_true rfl, Nat.le_of_ble_eq_true rfl⟩)) (fun r_1 er_1 => ?_)
  have er_1 : r_1 = f_PC_weight pin pif fan faS faT ix 0 xx yy := er_1
  refine lv_aload_n hx hb d_PC_weightSum_8 rfl (lv_at hl 0 rfl) ?_
  refine lv_iload_n hx hb d_PC_weightSum_9 rfl (lv_at hl 1 rfl) ?_
  refine lv_iconst (v := 1) hx hb d_PC_weightSum_10 (by decide) ?_
  refine lv_iload_n hx hb d_PC_weightSum_11 rfl (lv_at hl 2 rfl) ?_
  refine lv_iload_n hx hb d_PC_weightSum_12 rfl (lv_at hl 3 rfl) ?_
  have hPc := hP
  refine vp_callSl (va_Run.run (va_runV (As := [.int ix, .int 1, .int xx, .int yy]) (rest := [.long r_1]) ⟨hx, hb, hml, hown, hts⟩ (c_PC_weight l dC dI cJ cI ob wi hi fo gi gia gin gif ke kea ken kef sp spa spn spf pi pia pin pif fa fas fat faa fan faS faT faA ix 1 xx yy) (cwV 4 hts (gd_V wd_216 wd_217 wd_21 wd_33 wd_218) rfl rfl rfl (by decide +kernel) ⟨Nat.le_of_ble_eq_true rfl, Nat.le_of_ble_eq_true rfl⟩) ⟨fb_ro, va_recv hK hPc (ci := 0) (q0 := 0) rfl rfl, pre_ro hK hN hPc⟩ rfl rfl hl.1 rfl (lv_room (Nat.le_of_ble_eq_true rfl)) d_PC_weightSum_13 ⟨Nat.le_of_ble_eq_true rfl, Nat.le_of_ble_eq_true rfl⟩)) (fun r_2 er_2 => ?_)
  have er_2 : r_2 = f_PC_weight pin pif fan faS faT ix 1 xx yy := er_2
  refine lv_ladd hx hb d_PC_weightSum_16 ?_
  refine lv_aload_n hx hb d_PC_weightSum_17 rfl (lv_at hl 0 rfl) ?_
  refine lv_iload_n hx hb d_PC_weightSum_18 rfl (lv_at hl 1 rfl) ?_
  refine lv_iconst (v := 2) hx hb d_PC_weightSum_19 (by decide) ?_
  refine lv_iload_n hx hb d_PC_weightSum_20 rfl (lv_at hl 2 rfl) ?_
  refine lv_iload_n hx hb d_PC_weightSum_21 rfl (lv_at hl 3 rfl) ?_
  have hPc := hP
  refine vp_callSl (va_Run.run (va_runV (As := [.int ix, .int 2, .int xx, .int yy]) (rest := [.long (r_1 + r_2)]) ⟨hx, hb, hml, hown, hts⟩ (c_PC_weight l dC dI cJ cI ob wi hi fo gi gia gin gif ke kea ken kef sp spa spn spf pi pia pin pif fa fas fat faa fan faS faT faA ix 2 xx yy) (cwV 4 hts (gd_V wd_216 wd_217 wd_21 wd_33 wd_218) rfl rfl rfl (by decide +kernel) ⟨Nat.le_of_ble_eq_true rfl, Nat.le_of_ble_eq_true rfl⟩) ⟨fb_ro, va_recv hK hPc (ci := 0) (q0 := 0) rfl rfl, pre_ro hK hN hPc⟩ rfl rfl hl.1 rfl (lv_room (Nat.le_of_ble_eq_true rfl)) d_PC_weightSum_22 ⟨Nat.le_of_ble_eq_true rfl, Nat.le_of_ble_eq_true rfl⟩)) (fun r_3 er_3 => ?_)
  have er_3 : r_3 = f_PC_weight pin pif fan faS faT ix 2 xx yy := er_3
  refine lv_ladd hx hb d_PC_weightSum_25 ?_
  subst er_1
  subst er_2
  subst er_3
  exact W.lret (v := ((f_PC_weight pin pif fan faS faT ix 0 xx yy) + (f_PC_weight pin pif fan faS faT ix 1 xx yy)) + (f_PC_weight pin pif fan faS faT ix 2 xx yy)) hx hb hr (fun t ht hW => ⟨_, rfl, rfl, ht⟩) (fun q h => by cases h) d_PC_weightSum_26
def f_PC_piece (pin : Int32) (pif : Nat → Int64) (fan : Int32) (faS : Nat → Int32) (faT : Nat → Int32) (ix : Int32) (co : Int32) (wh : Int32) : Int32 := (f_Ri_at pin pif (f_Fa_corner fan faS faT ix co) wh).toInt32
set_option maxHeartbeats 4000000 in
set_option maxRecDepth 100000 in
theorem c_PC_piece (l : Launch) (dC : Nat → ClassId) (dI : Nat → Nat → Nat) (cJ cI : ClassId) (ob : Nat) (wi : Int32) (hi : Int32) (fo : Int32) (gi : Nat) (gia : Nat) (gin : Int32) (gif : Nat → Int64) (ke : Nat) (kea : Nat) (ken : Int32) (kef : Nat → Int64) (sp : Nat) (spa : Nat) (spn : Int32) (spf : Nat → Int64) (pi : Nat) (pia : Nat) (pin : Int32) (pif : Nat → Int64) (fa : Nat) (fas : Nat) (fat : Nat) (faa : Nat) (fan : Int32) (faS : Nat → Int32) (faT : Nat → Int32) (faA : Nat → Int32) (ix : Int32) (co : Int32) (wh : Int32) : Met l y_PC_piece w_PC_piece ({ frames := 2, cells := 0, slots := 0, locals := 43 } : Room) (rq_ro (dC, dI) cJ cI [.ref ob, .int ix, .int co, .int wh] [(ob, .inr (0, [.int wi, .int hi, .int fo, .ref gi, .ref ke, .ref sp, .ref pi, .ref fa])), (gi, .inr (1, [.ref gia, .int gin])), (gia, .inl (cJ, 114, .inr (.inl gif))), (ke, .inr (1, [.ref kea, .int ken])), (kea, .inl (cJ, 114, .inr (.inl kef))), (sp, .inr (1, [.ref spa, .int spn])), (spa, .inl (cJ, 114, .inr (.inl spf))), (pi, .inr (1, [.ref pia, .int pin])), (pia, .inl (cJ, 114, .inr (.inl pif))), (fa, .inr (2, [.ref fas, .ref fat, .ref faa, .int fan])), (fas, .inl (cI, 17, .inl faS)), (fat, .inl (cI, 17, .inl faT)), (faa, .inl (cI, 17, .inl faA))]) (vp_Si (fun r => r = f_PC_piece pin pif fan faS faT ix co wh)) 0 0 (fun _ => False) := by
  refine Met.ofW (cc := b_PC_piece) (maxL := 4) (ret := (some .int)) (by decide) rfl ?_
  intro p e s m args below meth c s₁ B hml hv
  obtain ⟨rfl, hP, hK, hN⟩ := hv
  have hx := B.exec
  have hb := B.bytes
  have hr := B.returns
  have hts := atoms_spec (ws := w_PC_piece) B.pre
  have hown : s.vm.findClass R_PC = some m.cls := findClass_of_methodNamed B.named
  have hlocks := B.notSynchronized
  have hl := lv_entry ([.ref ob, .int ix, .int co, .int wh]) (n := 4) (Nat.le_of_ble_eq_true rfl)
  rw [lg_entry_eq]
  generalize (lg_sl ([.ref ob, .int ix, .int co, .int wh]) ++ List.replicate (4 - (lg_sl ([.ref ob, .int ix, .int co, .int wh])).length) Slot.unset).toArray = ls at hl ⊢
  have hl : lv_has ls 4 [(0, .ref ob), (1, .int ix), (2, .int co), (3, .int wh)] := hl
  refine lv_aload_n hx hb d_PC_piece_0 rfl (lv_at hl 0 rfl) ?_
  refine va_get (D := (dC, dI)) (ci := 0) (v := .ref pi) (C := R_PC) (T := F_PC) (N := 8) hx hb hts (fun w h => mw (i_PC w h)) hown hK hP 0 rfl rfl 6 (by decide) (hts _ (mw wd_87)) (fun _ h9 => h9) rfl d_PC_piece_1 ?_
  refine lv_aload_n hx hb d_PC_piece_4 rfl (lv_at hl 0 rfl) ?_
  refine va_get (D := (dC, dI)) (ci := 0) (v := .ref fa) (C := R_PC) (T := F_PC) (N := 8) hx hb hts (fun w h => mw (i_PC w h)) hown hK hP 0 rfl rfl 7 (by decide) (hts _ (mw wd_88)) (fun _ h9 => h9) rfl d_PC_piece_5 ?_
  refine lv_iload_n hx hb d_PC_piece_8 rfl (lv_at hl 1 rfl) ?_
  refine lv_iload_n hx hb d_PC_piece_9 rfl (lv_at hl 2 rfl) ?_
  have hPc := hP.sub (ws' := [(fa, .inr (2, [.ref fas, .ref fat, .ref faa, .int fan])), (fas, .inl (cI, 17, .inl faS)), (fat, .inl (cI, 17, .inl faT)), (faa, .inl (cI, 17, .inl faA))]) [9, 10, 11, 12] rfl
  refine vp_callSi (va_Run.run (va_runVN (As := [.int ix, .int co]) (rest := [.ref pi]) ⟨hx, hb, hml, hown, hts⟩ (c_Fa_corner l dC dI cJ cI fa fas fat faa fan faS faT faA ix co) (⟨va_cnB 2 hts (gd_0 wd_175) rfl rfl rfl (hN _ nw_13) (hts _ (mw wd_36)) (by decide +kernel) ⟨Nat.le_of_ble_eq_true rfl, Nat.le_of_ble_eq_true rfl⟩, (hts _ (mw wd_174)), (hts _ (mw wd_14))⟩) ⟨fb_ro, va_recv hK hPc (ci := 2) (q0 := 0) rfl rfl, pre_ro hK hN hPc⟩ rfl rfl hl.1 rfl (lv_room (Nat.le_of_ble_eq_true rfl)) d_PC_piece_10 ⟨Nat.le_of_ble_eq_true rfl, Nat.le_of_ble_eq_true rfl⟩)) (fun r_1 er_1 => ?_)
  have er_1 : r_1 = f_Fa_corner fan faS faT ix co := er_1
  refine lv_iload_n hx hb d_PC_piece_13 rfl (lv_at hl 3 rfl) ?_
  have hPc := hP.sub (ws' := [(pi, .inr (1, [.ref pia, .int pin])), (pia, .inl (cJ, 114, .inr (.inl pif)))]) [7, 8] rfl
  refine vp_callSl (va_Run.run (va_runVN (As := [.int r_1, .int wh]) (rest := []) ⟨hx, hb, hml, hown, hts⟩ (c_Ri_at l dC dI cJ cI pi pia pin pif r_1 wh) (⟨va_cnB 2 hts (gd_0 wd_136) rfl rfl rfl (hN _ nw_10) (hts _ (mw wd_35)) (by decide +kernel) ⟨Nat.le_of_ble_eq_true rfl, Nat.le_of_ble_eq_true rfl⟩, (hts _ (mw wd_135)), (hts _ (mw wd_5))⟩) ⟨fb_ro, va_recv hK hPc (ci := 1) (q0 := 0) rfl rfl, pre_ro hK hN hPc⟩ rfl rfl hl.1 rfl (lv_room (Nat.le_of_ble_eq_true rfl)) d_PC_piece_14 ⟨Nat.le_of_ble_eq_true rfl, Nat.le_of_ble_eq_true rfl⟩)) (fun r_2 er_2 => ?_)
  have er_2 : r_2 = f_Ri_at pin pif r_1 wh := er_2
  refine lv_l2i hx hb d_PC_piece_17 rfl ?_
  subst er_1
  subst er_2
  exact W.iret (v := (f_Ri_at pin pif (f_Fa_corner fan faS faT ix co) wh).toInt32) hx hb hr (fun t ht hW => ⟨_, rfl, rfl, ht⟩) (fun q h => by cases h) d_PC_piece_18
def f_PC_area (fan : Int32) (faA : Nat → Int32) (ix : Int32) : Int32 := if (f_Fa_has fan ix) = 0 then (-1) else (faA ix.toNatClampNeg)
set_option maxHeartbeats 4000000 in
set_option maxRecDepth 100000 in
theorem c_PC_area (l : Launch) (dC : Nat → ClassId) (dI : Nat → Nat → Nat) (cJ cI : ClassId) (ob : Nat) (wi : Int32) (hi : Int32) (fo : Int32) (gi : Nat) (gia : Nat) (gin : Int32) (gif : Nat → Int64) (ke : Nat) (kea : Nat) (ken : Int32) (kef : Nat → Int64) (sp : Nat) (spa : Nat) (spn : Int32) (spf : Nat → Int64) (pi : Nat) (pia : Nat) (pin : Int32) (pif : Nat → Int64) (fa : Nat) (fas : Nat) (fat : Nat) (faa : Nat) (fan : Int32) (faS : Nat → Int32) (faT : Nat → Int32) (faA : Nat → Int32) (ix : Int32) : Met l y_PC_area w_PC_area ({ frames := 1, cells := 0, slots := 0, locals := 21 } : Room) (rq_ro (dC, dI) cJ cI [.ref ob, .int ix] [(ob, .inr (0, [.int wi, .int hi, .int fo, .ref gi, .ref ke, .ref sp, .ref pi, .ref fa])), (gi, .inr (1, [.ref gia, .int gin])), (gia, .inl (cJ, 114, .inr (.inl gif))), (ke, .inr (1, [.ref kea, .int ken])), (kea, .inl (cJ, 114, .inr (.inl kef))), (sp, .inr (1, [.ref spa, .int spn])), (spa, .inl (cJ, 114, .inr (.inl spf))), (pi, .inr (1, [.ref pia, .int pin])), (pia, .inl (cJ, 114, .inr (.inl pif))), (fa, .inr (2, [.ref fas, .ref fat, .ref faa, .int fan])), (fas, .inl (cI, 17, .inl faS)), (fat, .inl (cI, 17, .inl faT)), (faa, .inl (cI, 17, .inl faA))]) (vp_Si (fun r => r = f_PC_area fan faA ix)) 0 0 (fun _ => False) := by
  refine Met.ofW (cc := b_PC_area) (maxL := 2) (ret := (some .int)) (by decide) rfl ?_
  intro p e s m args below meth c s₁ B hml hv
  obtain ⟨rfl, hP, hK, hN⟩ := hv
  have hx := B.exec
  have hb := B.bytes
  have hr := B.returns
  have hts := atoms_spec (ws := w_PC_area) B.pre
  have hown : s.vm.findClass R_PC = some m.cls := findClass_of_methodNamed B.named
  have hlocks := B.notSynchronized
  have hl := lv_entry ([.ref ob, .int ix]) (n := 2) (Nat.le_of_ble_eq_true rfl)
  rw [lg_entry_eq]
  generalize (lg_sl ([.ref ob, .int ix]) ++ List.replicate (2 - (lg_sl ([.ref ob, .int ix])).length) Slot.unset).toArray = ls at hl ⊢
  have hl : lv_has ls 2 [(0, .ref ob), (1, .int ix)] := hl
  refine lv_aload_n hx hb d_PC_area_0 rfl (lv_at hl 0 rfl) ?_
  refine va_get (D := (dC, dI)) (ci := 0) (v := .ref fa) (C := R_PC) (T := F_PC) (N := 8) hx hb hts (fun w h => mw (i_PC w h)) hown hK hP 0 rfl rfl 7 (by decide) (hts _ (mw wd_88)) (fun _ h9 => h9) rfl d_PC_area_1 ?_
  refine lv_iload_n hx hb d_PC_area_4 rfl (lv_at hl 1 rfl) ?_
  have hPc := hP.sub (ws' := [(fa, .inr (2, [.ref fas, .ref fat, .ref faa, .int fan])), (fas, .inl (cI, 17, .inl faS)), (fat, .inl (cI, 17, .inl faT)), (faa, .inl (cI, 17, .inl faA))]) [9, 10, 11, 12] rfl
  refine vp_callSi (va_Run.run (va_runVN (As := [.int ix]) (rest := []) ⟨hx, hb, hml, hown, hts⟩ (c_Fa_has l dC dI cJ cI fa fas fat faa fan faS faT faA ix) (⟨va_cnB 1 hts (gd_0 wd_178) rfl rfl rfl (hN _ nw_14) (hts _ (mw wd_36)) (by decide +kernel) ⟨Nat.le_of_ble_eq_true rfl, Nat.le_of_ble_eq_true rfl⟩, (hts _ (mw wd_177)), (hts _ (mw wd_15))⟩) ⟨fb_ro, va_recv hK hPc (ci := 2) (q0 := 0) rfl rfl, pre_ro hK hN hPc⟩ rfl rfl hl.1 rfl (lv_room (Nat.le_of_ble_eq_true rfl)) d_PC_area_5 ⟨Nat.le_of_ble_eq_true rfl, Nat.le_of_ble_eq_true rfl⟩)) (fun r_1 er_1 => ?_)
  have er_1 : r_1 = f_Fa_has fan ix := er_1
  refine lv_if_eq (tgt := 23) hx hb d_PC_area_8 (by decide) (fun c_2 => ?_) (fun c_2 => ?_)
  · have c_2 : r_1 = 0 := c_2
    refine lv_iconst (v := (-1)) hx hb d_PC_area_23 (by decide) ?_
    subst er_1
    exact W.iret (v := (-1)) hx hb hr (fun t ht hW => ⟨_, rfl, by rw [f_PC_area, if_pos c_2], ht⟩) (fun q h => by cases h) d_PC_area_24
  · have c_2 : ¬ (r_1 = 0) := c_2
    refine lv_aload_n hx hb d_PC_area_11 rfl (lv_at hl 0 rfl) ?_
    refine va_get (D := (dC, dI)) (ci := 0) (v := .ref fa) (C := R_PC) (T := F_PC) (N := 8) hx hb hts (fun w h => mw (i_PC w h)) hown hK hP 0 rfl rfl 7 (by decide) (hts _ (mw wd_88)) (fun _ h9 => h9) rfl d_PC_area_12 ?_
    refine va_getN (D := (dC, dI)) (ci := 2) (v := .ref faa) (C := R_Fa) (T := F_Fa) (N := 4) hx hb hts (fun w h => mw (i_Fa w h)) hown hK hP 9 rfl rfl 2 (by decide) (va_Nw.use rfl (hN _ nw_4)) (fun _ h9 => h9) rfl d_PC_area_15 ?_
    refine lv_iload_n hx hb d_PC_area_18 rfl (lv_at hl 1 rfl) ?_
    have hi_4 : vp_in ix 17 := fa_has (by rw [← er_1]; exact c_2)
    refine va_iald hx hb hK hP 12 1 rfl rfl hi_4 d_PC_area_19 ?_
    refine lv_topi (fun y_5 ey_5 => ?_)
    refine lv_goto (tgt := 24) hx hb d_PC_area_20 (by decide) ?_
    subst er_1
    subst ey_5
    exact W.iret (v := faA ix.toNatClampNeg) hx hb hr (fun t ht hW => ⟨_, rfl, by rw [f_PC_area, if_neg c_2], ht⟩) (fun q h => by cases h) d_PC_area_24
def f_PC_near (wi : Int32) (hi : Int32) (pin : Int32) (pif : Nat → Int64) (fan : Int32) (faS : Nat → Int32) (faT : Nat → Int32) (faA : Nat → Int32) (ix : Int32) (xx : Int32) (yy : Int32) : Int32 := if (f_PC_covers wi hi pin pif fan faS faT ix xx yy) = 0 then (-1) else ((f_PC_div (f_PC_weightSum pin pif fan faS faT ix xx yy) ((f_PC_area fan faA ix).toInt64)).toInt32)
set_option maxHeartbeats 4000000 in
set_option maxRecDepth 100000 in
theorem c_PC_near (l : Launch) (dC : Nat → ClassId) (dI : Nat → Nat → Nat) (cJ cI : ClassId) (ob : Nat) (wi : Int32) (hi : Int32) (fo : Int32) (gi : Nat) (gia : Nat) (gin : Int32) (gif : Nat → Int64) (ke : Nat) (kea : Nat) (ken : Int32) (kef : Nat → Int64) (sp : Nat) (spa : Nat) (spn : Int32) (spf : Nat → Int64) (pi : Nat) (pia : Nat) (pin : Int32) (pif : Nat → Int64) (fa : Nat) (fas : Nat) (fat : Nat) (faa : Nat) (fan : Int32) (faS : Nat → Int32) (faT : Nat → Int32) (faA : Nat → Int32) (ix : Int32) (xx : Int32) (yy : Int32) : Met l y_PC_near w_PC_near ({ frames := 5, cells := 0, slots := 0, locals := 127 } : Room) (rq_ro (dC, dI) cJ cI [.ref ob, .int ix, .int xx, .int yy] [(ob, .inr (0, [.int wi, .int hi, .int fo, .ref gi, .ref ke, .ref sp, .ref pi, .ref fa])), (gi, .inr (1, [.ref gia, .int gin])), (gia, .inl (cJ, 114, .inr (.inl gif))), (ke, .inr (1, [.ref kea, .int ken])), (kea, .inl (cJ, 114, .inr (.inl kef))), (sp, .inr (1, [.ref spa, .int spn])), (spa, .inl (cJ, 114, .inr (.inl spf))), (pi, .inr (1, [.ref pia, .int pin])), (pia, .inl (cJ, 114, .inr (.inl pif))), (fa, .inr (2, [.ref fas, .ref fat, .ref faa, .int fan])), (fas, .inl (cI, 17, .inl faS)), (fat, .inl (cI, 17, .inl faT)), (faa, .inl (cI, 17, .inl faA))]) (vp_Si (fun r => r = f_PC_near wi hi pin pif fan faS faT faA ix xx yy)) 0 0 (fun _ => False) := by
  refine Met.ofW (cc := b_PC_near) (maxL := 4) (ret := (some .int)) (by decide) rfl ?_
  intro p e s m args below meth c s₁ B hml hv
  obtain ⟨rfl, hP, hK, hN⟩ := hv
  have hx := B.exec
  have hb := B.bytes
  have hr := B.returns
  have hts := atoms_spec (ws := w_PC_near) B.pre
  have hown : s.vm.findClass R_PC = some m.cls := findClass_of_methodNamed B.named
  have hlocks := B.notSynchronized
  have hl := lv_entry ([.ref ob, .int ix, .int xx, .int yy]) (n := 4) (Nat.le_of_ble_eq_true rfl)
  rw [lg_entry_eq]
  generalize (lg_sl ([.ref ob, .int ix, .int xx, .int yy]) ++ List.replicate (4 - (lg_sl ([.ref ob, .int ix, .int xx, .int yy])).length) Slot.unset).toArray = ls at hl ⊢
  have hl : lv_has ls 4 [(0, .ref ob), (1, .int ix), (2, .int xx), (3, .int yy)] := hl
  refine lv_aload_n hx hb d_PC_near_0 rfl (lv_at hl 0 rfl) ?_
  refine lv_iload_n hx hb d_PC_near_1 rfl (lv_at hl 1 rfl) ?_
  refine lv_iload_n hx hb d_PC_near_2 rfl (lv_at hl 2 rfl) ?_
  refine lv_iload_n hx hb d_PC_near_3 rfl (lv_at hl 3 rfl) ?_
  have hPc := hP
  refine vp_callSi (va_Run.run (va_runV (As := [.int ix, .int xx, .int yy]) (rest := []) ⟨hx, hb, hml, hown, hts⟩ (c_PC_covers l dC dI cJ cI ob wi hi fo gi gia gin gif ke kea ken kef sp spa spn spf pi pia pin pif fa fas fat faa fan faS faT faA ix xx yy) (cwV 3 hts (gd_V wd_187 wd_188 wd_16 wd_33 wd_189) rfl rfl rfl (by decide +kernel) ⟨Nat.le_of_ble_eq_true rfl, Nat.le_of_ble_eq_true rfl⟩) ⟨fb_ro, va_recv hK hPc (ci := 0) (q0 := 0) rfl rfl, pre_ro hK hN hPc⟩ rfl rfl hl.1 rfl (lv_room (Nat.le_of_ble_eq_true rfl)) d_PC_near_4 ⟨Nat.le_of_ble_eq_true rfl, Nat.le_of_ble_eq_true rfl⟩)) (fun r_1 er_1 => ?_)
  have er_1 : r_1 = f_PC_covers wi hi pin pif fan faS faT ix xx yy := er_1
  refine lv_if_ne (tgt := 12) hx hb d_PC_near_7 (by decide) (fun c_2 => ?_) (fun c_2 => ?_)
  · have c_2 : ¬ (r_1 = 0) := c_2
    refine lv_aload_n hx hb d_PC_near_12 rfl (lv_at hl 0 rfl) ?_
    refine lv_iload_n hx hb d_PC_near_13 rfl (lv_at hl 1 rfl) ?_
    refine lv_iload_n hx hb d_PC_near_14 rfl (lv_at hl 2 rfl) ?_
    refine lv_iload_n hx hb d_PC_near_15 rfl (lv_at hl 3 rfl) ?_
    have hPc := hP
    refine vp_callSl (va_Run.run (va_runV (As := [.int ix, .int xx, .int yy]) (rest := []) ⟨hx, hb, hml, hown, hts⟩ (c_PC_weightSum l dC dI cJ cI ob wi hi fo gi gia gin gif ke kea ken kef sp spa spn spf pi pia pin pif fa fas fat faa fan faS faT faA ix xx yy) (cwV 3 hts (gd_V wd_213 wd_214 wd_20 wd_33 wd_215) rfl rfl rfl (by decide +kernel) ⟨Nat.le_of_ble_eq_true rfl, Nat.le_of_ble_eq_true rfl⟩) ⟨fb_ro, va_recv hK hPc (ci := 0) (q0 := 0) rfl rfl, pre_ro hK hN hPc⟩ rfl rfl hl.1 rfl (lv_room (Nat.le_of_ble_eq_true rfl)) d_PC_near_16 ⟨Nat.le_of_ble_eq_true rfl, Nat.le_of_ble_eq_true rfl⟩)) (fun r_3 er_3 => ?_)
    have er_3 : r_3 = f_PC_weightSum pin pif fan faS faT ix xx yy := er_3
    refine lv_aload_n hx hb d_PC_near_19 rfl (lv_at hl 0 rfl) ?_
    refine lv_iload_n hx hb d_PC_near_20 rfl (lv_at hl 1 rfl) ?_
    have hPc := hP
    refine vp_callSi (va_Run.run (va_runV (As := [.int ix]) (rest := [.long r_3]) ⟨hx, hb, hml, hown, hts⟩ (c_PC_area l dC dI cJ cI ob wi hi fo gi gia gin gif ke kea ken kef sp spa spn spf pi pia pin pif fa fas fat faa fan faS faT faA ix) (cwV 1 hts (gd_V wd_219 wd_180 wd_181 wd_33 wd_182) rfl rfl rfl (by decide +kernel) ⟨Nat.le_of_ble_eq_true rfl, Nat.le_of_ble_eq_true rfl⟩) ⟨fb_ro, va_recv hK hPc (ci := 0) (q0 := 0) rfl rfl, pre_ro hK hN hPc⟩ rfl rfl hl.1 rfl (lv_room (Nat.le_of_ble_eq_true rfl)) d_PC_near_21 ⟨Nat.le_of_ble_eq_true rfl, Nat.le_of_ble_eq_true rfl⟩)) (fun r_4 er_4 => ?_)
    have er_4 : r_4 = f_PC_area fan faA ix := er_4
    refine lv_i2l hx hb d_PC_near_24 rfl ?_
    refine vp_callSl (va_Run.run (va_runS (As := [.long r_3, .long r_4.toInt64]) (rest := []) ⟨hx, hb, hml, hown, hts⟩ (c_PC_div l dC dI cJ cI r_3 r_4.toInt64) (va_cwS 2 hts (gd_S wd_148 wd_149 wd_33 wd_150) rfl rfl rfl (by decide +kernel) ⟨Nat.le_of_ble_eq_true rfl, Nat.le_of_ble_eq_true rfl⟩) ⟨fb_ro, pre_ro hK hN va_nil⟩ rfl rfl hl.1 rfl (lv_room (Nat.le_of_ble_eq_true rfl)) d_PC_near_25 ⟨Nat.le_of_ble_eq_true rfl, Nat.le_of_ble_eq_true rfl⟩)) (fun r_5 er_5 => ?_)
    have er_5 : r_5 = f_PC_div r_3 r_4.toInt64 := er_5
    refine lv_l2i hx hb d_PC_near_28 rfl ?_
    subst er_1
    subst er_3
    subst er_4
    subst er_5
    exact W.iret (v := (f_PC_div (f_PC_weightSum pin pif fan faS faT ix xx yy) ((f_PC_area fan faA ix).toInt64)).toInt32) hx hb hr (fun t ht hW => ⟨_, rfl, by rw [f_PC_near, if_neg c_2], ht⟩) (fun q h => by cases h) d_PC_near_29
  · have c_2 : r_1 = 0 := c_2
    refine lv_iconst (v := (-1)) hx hb d_PC_near_10 (by decide) ?_
    subst er_1
    exact W.iret (v := (-1)) hx hb hr (fun t ht hW => ⟨_, rfl, by rw [f_PC_near, if_pos c_2], ht⟩) (fun q h => by cases h) d_PC_near_11
def f_PC_number (wi : Int32) (hi : Int32) (pin : Int32) (pif : Nat → Int64) (fan : Int32) (faS : Nat → Int32) (faT : Nat → Int32) (ix : Int32) (xx : Int32) (yy : Int32) (wh : Int32) : Int32 := if wh < 0 then 0 else (if 3 ≤ wh then 0 else (if (f_PC_covers wi hi pin pif fan faS faT ix xx yy) = 0 then 0 else ((f_PC_div (((0 + ((f_PC_weight pin pif fan faS faT ix 0 xx yy) * (f_Ri_at pin pif (f_Fa_corner fan faS faT ix 0) (3 + wh)))) + ((f_PC_weight pin pif fan faS faT ix 1 xx yy) * (f_Ri_at pin pif (f_Fa_corner fan faS faT ix 1) (3 + wh)))) + ((f_PC_weight pin pif fan faS faT ix 2 xx yy) * (f_Ri_at pin pif (f_Fa_corner fan faS faT ix 2) (3 + wh)))) (f_PC_weightSum pin pif fan faS faT ix xx yy)).toInt32)))
set_option maxHeartbeats 4000000 in
set_option maxRecDepth 100000 in
theorem c_PC_number (l : Launch) (dC : Nat → ClassId) (dI : Nat → Nat → Nat) (cJ cI : ClassId) (ob : Nat) (wi : Int32) (hi : Int32) (fo : Int32) (gi : Nat) (gia : Nat) (gin : Int32) (gif : Nat → Int64) (ke : Nat) (kea : Nat) (ken : Int32) (kef : Nat → Int64) (sp : Nat) (spa : Nat) (spn : Int32) (spf : Nat → Int64) (pi : Nat) (pia : Nat) (pin : Int32) (pif : Nat → Int64) (fa : Nat) (fas : Nat) (fat : Nat) (faa : Nat) (fan : Int32) (faS : Nat → Int32) (faT : Nat → Int32) (faA : Nat → Int32) (ix : Int32) (xx : Int32) (yy : Int32) (wh : Int32) : Met l y_PC_number w_PC_number ({ frames := 5, cells := 0, slots := 0, locals := 127 } : Room) (rq_ro (dC, dI) cJ cI [.ref ob, .int ix, .int xx, .int yy, .int wh] [(ob, .inr (0, [.int wi, .int hi, .int fo, .ref gi, .ref ke, .ref sp, .ref pi, .ref fa])), (gi, .inr (1, [.ref gia, .int gin])), (gia, .inl (cJ, 114, .inr (.inl gif))), (ke, .inr (1, [.ref kea, .int ken])), (kea, .inl (cJ, 114, .inr (.inl kef))), (sp, .inr (1, [.ref spa, .int spn])), (spa, .inl (cJ, 114, .inr (.inl spf))), (pi, .inr (1, [.ref pia, .int pin])), (pia, .inl (cJ, 114, .inr (.inl pif))), (fa, .inr (2, [.ref fas, .ref fat, .ref faa, .int fan])), (fas, .inl (cI, 17, .inl faS)), (fat, .inl (cI, 17, .inl faT)), (faa, .inl (cI, 17, .inl faA))]) (vp_Si (fun r => r = f_PC_number wi hi pin pif fan faS faT ix xx yy wh)) 0 0 (fun _ => False) := by
  refine Met.ofW (cc := b_PC_number) (maxL := 8) (ret := (some .int)) (by decide) rfl ?_
  intro p e s m args below meth c s₁ B hml hv
  obtain ⟨rfl, hP, hK, hN⟩ := hv
  have hx := B.exec
  have hb := B.bytes
  have hr := B.returns
  have hts := atoms_spec (ws := w_PC_number) B.pre
  have hown : s.vm.findClass R_PC = some m.cls := findClass_of_methodNamed B.named
  have hlocks := B.notSynchronized
  have hl := lv_entry ([.ref ob, .int ix, .int xx, .int yy, .int wh]) (n := 8) (Nat.le_of_ble_eq_true rfl)
  rw [lg_entry_eq]
  generalize (lg_sl ([.ref ob, .int ix, .int xx, .int yy, .int wh]) ++ List.replicate (8 - (lg_sl ([.ref ob, .int ix, .int xx, .int yy, .int wh])).length) Slot.unset).toArray = ls at hl ⊢
  have hl : lv_has ls 8 [(0, .ref ob), (1, .int ix), (2, .int xx), (3, .int yy), (4, .int wh)] := hl
  refine lv_iload hx hb d_PC_number_0 (lv_at hl 4 rfl) ?_
  refine lv_if_lt (tgt := 21) hx hb d_PC_number_2 (by decide) (fun c_1 => ?_) (fun c_1 => ?_)
  · have c_1 : wh < 0 := c_1
    refine lv_iconst (v := 0) hx hb d_PC_number_21 (by decide) ?_
    exact W.iret (v := 0) hx hb hr (fun t ht hW => ⟨_, rfl, by rw [f_PC_number, if_pos c_1], ht⟩) (fun q h => by cases h) d_PC_number_22
  · have c_1 : ¬ (wh < 0) := c_1
    refine lv_iload hx hb d_PC_number_5 (lv_at hl 4 rfl) ?_
    refine lv_iconst (v := 3) hx hb d_PC_number_7 (by decide) ?_
    refine lv_icmp_ge (tgt := 21) hx hb d_PC_number_8 (by decide) (fun c_2 => ?_) (fun c_2 => ?_)
    · have c_2 : 3 ≤ wh := c_2
      refine lv_iconst (v := 0) hx hb d_PC_number_21 (by decide) ?_
      exact W.iret (v := 0) hx hb hr (fun t ht hW => ⟨_, rfl, by rw [f_PC_number, if_neg c_1, if_pos c_2], ht⟩) (fun q h => by cases h) d_PC_number_22
    · have c_2 : ¬ (3 ≤ wh) := c_2
      refine lv_aload_n hx hb d_PC_number_11 rfl (lv_at hl 0 rfl) ?_
      refine lv_iload_n hx hb d_PC_number_12 rfl (lv_at hl 1 rfl) ?_
      refine lv_iload_n hx hb d_PC_number_13 rfl (lv_at hl 2 rfl) ?_
      refine lv_iload_n hx hb d_PC_number_14 rfl (lv_at hl 3 rfl) ?_
      have hPc := hP
      refine vp_callSi (va_Run.run (va_runV (As := [.int ix, .int xx, .int yy]) (rest := []) ⟨hx, hb, hml, hown, hts⟩ (c_PC_covers l dC dI cJ cI ob wi hi fo gi gia gin gif ke kea ken kef sp spa spn spf pi pia pin pif fa fas fat faa fan faS faT faA ix xx yy) (cwV 3 hts (gd_V wd_187 wd_188 wd_16 wd_33 wd_189) rfl rfl rfl (by decide +kernel) ⟨Nat.le_of_ble_eq_true rfl, Nat.le_of_ble_eq_true rfl⟩) ⟨fb_ro, va_recv hK hPc (ci := 0) (q0 := 0) rfl rfl, pre_ro hK hN hPc⟩ rfl rfl hl.1 rfl (lv_room (Nat.le_of_ble_eq_true rfl)) d_PC_number_15 ⟨Nat.le_of_ble_eq_true rfl, Nat.le_of_ble_eq_true rfl⟩)) (fun r_3 er_3 => ?_)
      have er_3 : r_3 = f_PC_covers wi hi pin pif fan faS faT ix xx yy := er_3
      refine lv_if_ne (tgt := 23) hx hb d_PC_number_18 (by decide) (fun c_4 => ?_) (fun c_4 => ?_)
      · have c_4 : ¬ (r_3 = 0) := c_4
        refine lv_lconst (v := 0) hx hb d_PC_number_23 (by decide) ?_
        refine lv_lstore (lv' := [(5, .long 0), (0, .ref ob), (1, .int ix), (2, .int xx), (3, .int yy), (4, .int wh)]) hx hb d_PC_number_24 hl (by decide) rfl (fun ls hl => ?_)
        refine lv_iconst (v := 0) hx hb d_PC_number_26 (by decide) ?_
        refine lv_istore (lv' := [(7, .int 0), (5, .long 0), (0, .ref ob), (1, .int ix), (2, .int xx), (3, .int yy), (4, .int wh)]) hx hb d_PC_number_27 hl (by decide) rfl (fun ls hl => ?_)
        refine lv_iload hx hb d_PC_number_29 (lv_at hl 0 rfl) ?_
        refine lv_iconst (v := 3) hx hb d_PC_number_31 (by decide) ?_
        refine lv_icmp_ge (tgt := 77) hx hb d_PC_number_32 (by decide) (fun c_5 => absurd c_5 (by decide)) (fun _ => ?_)
        refine lv_lload hx hb d_PC_number_35 (lv_at hl 1 rfl) ?_
        refine lv_aload_n hx hb d_PC_number_37 rfl (lv_at hl 2 rfl) ?_
        refine lv_iload_n hx hb d_PC_number_38 rfl (lv_at hl 3 rfl) ?_
        refine lv_iload hx hb d_PC_number_39 (lv_at hl 0 rfl) ?_
        refine lv_iload_n hx hb d_PC_number_41 rfl (lv_at hl 4 rfl) ?_
        refine lv_iload_n hx hb d_PC_number_42 rfl (lv_at hl 5 rfl) ?_
        have hPc := hP
        refine vp_callSl (va_Run.run (va_runV (As := [.int ix, .int 0, .int xx, .int yy]) (rest := [.long 0]) ⟨hx, hb, hml, hown, hts⟩ (c_PC_weight l dC dI cJ cI ob wi hi fo gi gia gin gif ke kea ken kef sp spa spn spf pi pia pin pif fa fas fat faa fan faS faT faA ix 0 xx yy) (cwV 4 hts (gd_V wd_216 wd_217 wd_21 wd_33 wd_218) rfl rfl rfl (by decide +kernel) ⟨Nat.le_of_ble_eq_true rfl, Nat.le_of_ble_eq_true rfl⟩) ⟨fb_ro, va_recv hK hPc (ci := 0) (q0 := 0) rfl rfl, pre_ro hK hN hPc⟩ rfl rfl hl.1 rfl (lv_room (Nat.le_of_ble_eq_true rfl)) d_PC_number_43 ⟨Nat.le_of_ble_eq_true rfl, Nat.le_of_ble_eq_true rfl⟩)) (fun r_6 er_6 => ?_)
        have er_6 : r_6 = f_PC_weight pin pif fan faS faT ix 0 xx yy := er_6
        refine lv_aload_n hx hb d_PC_number_46 rfl (lv_at hl 2 rfl) ?_
        refine va_get (D := (dC, dI)) (ci := 0) (v := .ref pi) (C := R_PC) (T := F_PC) (N := 8) hx hb hts (fun w h => mw (i_PC w h)) hown hK hP 0 rfl rfl 6 (by decide) (hts _ (mw wd_87)) (fun _ h9 => h9) rfl d_PC_number_47 ?_
        refine lv_aload_n hx hb d_PC_number_50 rfl (lv_at hl 2 rfl) ?_
        refine va_get (D := (dC, dI)) (ci := 0) (v := .ref fa) (C := R_PC) (T := F_PC) (N := 8) hx hb hts (fun w h => mw (i_PC w h)) hown hK hP 0 rfl rfl 7 (by decide) (hts _ (mw wd_88)) (fun _ h9 => h9) rfl d_PC_number_51 ?_
        refine lv_iload_n hx hb d_PC_number_54 rfl (lv_at hl 3 rfl) ?_
        refine lv_iload hx hb d_PC_number_55 (lv_at hl 0 rfl) ?_
        have hPc := hP.sub (ws' := [(fa, .inr (2, [.ref fas, .ref fat, .ref faa, .int fan])), (fas, .inl (cI, 17, .inl faS)), (fat, .inl (cI, 17, .inl faT)), (faa, .inl (cI, 17, .inl faA))]) [9, 10, 11, 12] rfl
        refine vp_callSi (va_Run.run (va_runVN (As := [.int ix, .int 0]) (rest := [.ref pi, .long r_6, .long 0]) ⟨hx, hb, hml, hown, hts⟩ (c_Fa_corner l dC dI cJ cI fa fas fat faa fan faS faT faA ix 0) (⟨va_cnB 2 hts (gd_0 wd_175) rfl rfl rfl (hN _ nw_13) (hts _ (mw wd_36)) (by decide +kernel) ⟨Nat.le_of_ble_eq_true rfl, Nat.le_of_ble_eq_true rfl⟩, (hts _ (mw wd_174)), (hts _ (mw wd_14))⟩) ⟨fb_ro, va_recv hK hPc (ci := 2) (q0 := 0) rfl rfl, pre_ro hK hN hPc⟩ rfl rfl hl.1 rfl (lv_room (Nat.le_of_ble_eq_true rfl)) d_PC_number_57 ⟨Nat.le_of_ble_eq_true rfl, Nat.le_of_ble_eq_true rfl⟩)) (fun r_7 er_7 => ?_)
        have er_7 : r_7 = f_Fa_corner fan faS faT ix 0 := er_7
        refine lv_iconst (v := 3) hx hb d_PC_number_60 (by decide) ?_
        refine lv_iload hx hb d_PC_number_61 (lv_at hl 6 rfl) ?_
        refine lv_iadd hx hb d_PC_number_63 ?_
        have hPc := hP.sub (ws' := [(pi, .inr (1, [.ref pia, .int pin])), (pia, .inl (cJ, 114, .inr (.inl pif)))]) [7, 8] rfl
        refine vp_callSl (va_Run.run (va_runVN (As := [.int r_7, .int (3 + wh)]) (rest := [.long r_6, .long 0]) ⟨hx, hb, hml, hown, hts⟩ (c_Ri_at l dC dI cJ cI pi pia pin pif r_7 (3 + wh)) (⟨va_cnB 2 hts (gd_0 wd_136) rfl rfl rfl (hN _ nw_10) (hts _ (mw wd_35)) (by decide +kernel) ⟨Nat.le_of_ble_eq_true rfl, Nat.le_of_ble_eq_true rfl⟩, (hts _ (mw wd_135)), (hts _ (mw wd_5))⟩) ⟨fb_ro, va_recv hK hPc (ci := 1) (q0 := 0) rfl rfl, pre_ro hK hN hPc⟩ rfl rfl hl.1 rfl (lv_room (Nat.le_of_ble_eq_true rfl)) d_PC_number_64 ⟨Nat.le_of_ble_eq_true rfl, Nat.le_of_ble_eq_true rfl⟩)) (fun r_8 er_8 => ?_)
        have er_8 : r_8 = f_Ri_at pin pif r_7 (3 + wh) := er_8
        refine lv_lmul hx hb d_PC_number_67 ?_
        refine lv_ladd hx hb d_PC_number_68 ?_
        refine lv_topl (fun y_9 ey_9 => ?_)
        refine lv_lstore (lv' := [(5, .long y_9), (7, .int 0), (0, .ref ob), (1, .int ix), (2, .int xx), (3, .int yy), (4, .int wh)]) hx hb d_PC_number_69 hl (by decide) rfl (fun ls hl => ?_)
        refine lv_iinc (v := 1) (lv' := [(7, .int 1), (5, .long y_9), (0, .ref ob), (1, .int ix), (2, .int xx), (3, .int yy), (4, .int wh)]) hx hb d_PC_number_71 hl (k := 1) rfl (by decide) (by decide) rfl (fun ls hl => ?_)
        refine lv_goto (tgt := 29) hx hb d_PC_number_74 (by decide) ?_
        refine lv_iload hx hb d_PC_number_29 (lv_at hl 0 rfl) ?_
        refine lv_iconst (v := 3) hx hb d_PC_number_31 (by decide) ?_
        refine lv_icmp_ge (tgt := 77) hx hb d_PC_number_32 (by decide) (fun c_10 => absurd c_10 (by decide)) (fun _ => ?_)
        refine lv_lload hx hb d_PC_number_35 (lv_at hl 1 rfl) ?_
        refine lv_aload_n hx hb d_PC_number_37 rfl (lv_at hl 2 rfl) ?_
        refine lv_iload_n hx hb d_PC_number_38 rfl (lv_at hl 3 rfl) ?_
        refine lv_iload hx hb d_PC_number_39 (lv_at hl 0 rfl) ?_
        refine lv_iload_n hx hb d_PC_number_41 rfl (lv_at hl 4 rfl) ?_
        refine lv_iload_n hx hb d_PC_number_42 rfl (lv_at hl 5 rfl) ?_
        have hPc := hP
        refine vp_callSl (va_Run.run (va_runV (As := [.int ix, .int 1, .int xx, .int yy]) (rest := [.long y_9]) ⟨hx, hb, hml, hown, hts⟩ (c_PC_weight l dC dI cJ cI ob wi hi fo gi gia gin gif ke kea ken kef sp spa spn spf pi pia pin pif fa fas fat faa fan faS faT faA ix 1 xx yy) (cwV 4 hts (gd_V wd_216 wd_217 wd_21 wd_33 wd_218) rfl rfl rfl (by decide +kernel) ⟨Nat.le_of_ble_eq_true rfl, Nat.le_of_ble_eq_true rfl⟩) ⟨fb_ro, va_recv hK hPc (ci := 0) (q0 := 0) rfl rfl, pre_ro hK hN hPc⟩ rfl rfl hl.1 rfl (lv_room (Nat.le_of_ble_eq_true rfl)) d_PC_number_43 ⟨Nat.le_of_ble_eq_true rfl, Nat.le_of_ble_eq_true rfl⟩)) (fun r_11 er_11 => ?_)
        have er_11 : r_11 = f_PC_weight pin pif fan faS faT ix 1 xx yy := er_11
        refine lv_aload_n hx hb d_PC_number_46 rfl (lv_at hl 2 rfl) ?_
        refine va_get (D := (dC, dI)) (ci := 0) (v := .ref pi) (C := R_PC) (T := F_PC) (N := 8) hx hb hts (fun w h => mw (i_PC w h)) hown hK hP 0 rfl rfl 6 (by decide) (hts _ (mw wd_87)) (fun _ h9 => h9) rfl d_PC_number_47 ?_
        refine lv_aload_n hx hb d_PC_number_50 rfl (lv_at hl 2 rfl) ?_
        refine va_get (D := (dC, dI)) (ci := 0) (v := .ref fa) (C := R_PC) (T := F_PC) (N := 8) hx hb hts (fun w h => mw (i_PC w h)) hown hK hP 0 rfl rfl 7 (by decide) (hts _ (mw wd_88)) (fun _ h9 => h9) rfl d_PC_number_51 ?_
        refine lv_iload_n hx hb d_PC_number_54 rfl (lv_at hl 3 rfl) ?_
        refine lv_iload hx hb d_PC_number_55 (lv_at hl 0 rfl) ?_
        have hPc := hP.sub (ws' := [(fa, .inr (2, [.ref fas, .ref fat, .ref faa, .int fan])), (fas, .inl (cI, 17, .inl faS)), (fat, .inl (cI, 17, .inl faT)), (faa, .inl (cI, 17, .inl faA))]) [9, 10, 11, 12] rfl
        refine vp_callSi (va_Run.run (va_runVN (As := [.int ix, .int 1]) (rest := [.ref pi, .long r_11, .long y_9]) ⟨hx, hb, hml, hown, hts⟩ (c_Fa_corner l dC dI cJ cI fa fas fat faa fan faS faT faA ix 1) (⟨va_cnB 2 hts (gd_0 wd_175) rfl rfl rfl (hN _ nw_13) (hts _ (mw wd_36)) (by decide +kernel) ⟨Nat.le_of_ble_eq_true rfl, Nat.le_of_ble_eq_true rfl⟩, (hts _ (mw wd_174)), (hts _ (mw wd_14))⟩) ⟨fb_ro, va_recv hK hPc (ci := 2) (q0 := 0) rfl rfl, pre_ro hK hN hPc⟩ rfl rfl hl.1 rfl (lv_room (Nat.le_of_ble_eq_true rfl)) d_PC_number_57 ⟨Nat.le_of_ble_eq_true rfl, Nat.le_of_ble_eq_true rfl⟩)) (fun r_12 er_12 => ?_)
        have er_12 : r_12 = f_Fa_corner fan faS faT ix 1 := er_12
        refine lv_iconst (v := 3) hx hb d_PC_number_60 (by decide) ?_
        refine lv_iload hx hb d_PC_number_61 (lv_at hl 6 rfl) ?_
        refine lv_iadd hx hb d_PC_number_63 ?_
        have hPc := hP.sub (ws' := [(pi, .inr (1, [.ref pia, .int pin])), (pia, .inl (cJ, 114, .inr (.inl pif)))]) [7, 8] rfl
        refine vp_callSl (va_Run.run (va_runVN (As := [.int r_12, .int (3 + wh)]) (rest := [.long r_11, .long y_9]) ⟨hx, hb, hml, hown, hts⟩ (c_Ri_at l dC dI cJ cI pi pia pin pif r_12 (3 + wh)) (⟨va_cnB 2 hts (gd_0 wd_136) rfl rfl rfl (hN _ nw_10) (hts _ (mw wd_35)) (by decide +kernel) ⟨Nat.le_of_ble_eq_true rfl, Nat.le_of_ble_eq_true rfl⟩, (hts _ (mw wd_135)), (hts _ (mw wd_5))⟩) ⟨fb_ro, va_recv hK hPc (ci := 1) (q0 := 0) rfl rfl, pre_ro hK hN hPc⟩ rfl rfl hl.1 rfl (lv_room (Nat.le_of_ble_eq_true rfl)) d_PC_number_64 ⟨Nat.le_of_ble_eq_true rfl, Nat.le_of_ble_eq_true rfl⟩)) (fun r_13 er_13 => ?_)
        have er_13 : r_13 = f_Ri_at pin pif r_12 (3 + wh) := er_13
        refine lv_lmul hx hb d_PC_number_67 ?_
        refine lv_ladd hx hb d_PC_number_68 ?_
        refine lv_topl (fun y_14 ey_14 => ?_)
        refine lv_lstore (lv' := [(5, .long y_14), (7, .int 1), (0, .ref ob), (1, .int ix), (2, .int xx), (3, .int yy), (4, .int wh)]) hx hb d_PC_number_69 hl (by decide) rfl (fun ls hl => ?_)
        refine lv_iinc (v := 2) (lv' := [(7, .int 2), (5, .long y_14), (0, .ref ob), (1, .int ix), (2, .int xx), (3, .int yy), (4, .int wh)]) hx hb d_PC_number_71 hl (k := 1) rfl (by decide) (by decide) rfl (fun ls hl => ?_)
        refine lv_goto (tgt := 29) hx hb d_PC_number_74 (by decide) ?_
        refine lv_iload hx hb d_PC_number_29 (lv_at hl 0 rfl) ?_
        refine lv_iconst (v := 3) hx hb d_PC_number_31 (by decide) ?_
        refine lv_icmp_ge (tgt := 77) hx hb d_PC_number_32 (by decide) (fun c_15 => absurd c_15 (by decide)) (fun _ => ?_)
        refine lv_lload hx hb d_PC_number_35 (lv_at hl 1 rfl) ?_
        refine lv_aload_n hx hb d_PC_number_37 rfl (lv_at hl 2 rfl) ?_
        refine lv_iload_n hx hb d_PC_number_38 rfl (lv_at hl 3 rfl) ?_
        refine lv_iload hx hb d_PC_number_39 (lv_at hl 0 rfl) ?_
        refine lv_iload_n hx hb d_PC_number_41 rfl (lv_at hl 4 rfl) ?_
        refine lv_iload_n hx hb d_PC_number_42 rfl (lv_at hl 5 rfl) ?_
        have hPc := hP
        refine vp_callSl (va_Run.run (va_runV (As := [.int ix, .int 2, .int xx, .int yy]) (rest := [.long y_14]) ⟨hx, hb, hml, hown, hts⟩ (c_PC_weight l dC dI cJ cI ob wi hi fo gi gia gin gif ke kea ken kef sp spa spn spf pi pia pin pif fa fas fat faa fan faS faT faA ix 2 xx yy) (cwV 4 hts (gd_V wd_216 wd_217 wd_21 wd_33 wd_218) rfl rfl rfl (by decide +kernel) ⟨Nat.le_of_ble_eq_true rfl, Nat.le_of_ble_eq_true rfl⟩) ⟨fb_ro, va_recv hK hPc (ci := 0) (q0 := 0) rfl rfl, pre_ro hK hN hPc⟩ rfl rfl hl.1 rfl (lv_room (Nat.le_of_ble_eq_true rfl)) d_PC_number_43 ⟨Nat.le_of_ble_eq_true rfl, Nat.le_of_ble_eq_true rfl⟩)) (fun r_16 er_16 => ?_)
        have er_16 : r_16 = f_PC_weight pin pif fan faS faT ix 2 xx yy := er_16
        refine lv_aload_n hx hb d_PC_number_46 rfl (lv_at hl 2 rfl) ?_
        refine va_get (D := (dC, dI)) (ci := 0) (v := .ref pi) (C := R_PC) (T := F_PC) (N := 8) hx hb hts (fun w h => mw (i_PC w h)) hown hK hP 0 rfl rfl 6 (by decide) (hts _ (mw wd_87)) (fun _ h9 => h9) rfl d_PC_number_47 ?_
        refine lv_aload_n hx hb d_PC_number_50 rfl (lv_at hl 2 rfl) ?_
        refine va_get (D := (dC, dI)) (ci := 0) (v := .ref fa) (C := R_PC) (T := F_PC) (N := 8) hx hb hts (fun w h => mw (i_PC w h)) hown hK hP 0 rfl rfl 7 (by decide) (hts _ (mw wd_88)) (fun _ h9 => h9) rfl d_PC_number_51 ?_
        refine lv_iload_n hx hb d_PC_number_54 rfl (lv_at hl 3 rfl) ?_
        refine lv_iload hx hb d_PC_number_55 (lv_at hl 0 rfl) ?_
        have hPc := hP.sub (ws' := [(fa, .inr (2, [.ref fas, .ref fat, .ref faa, .int fan])), (fas, .inl (cI, 17, .inl faS)), (fat, .inl (cI, 17, .inl faT)), (faa, .inl (cI, 17, .inl faA))]) [9, 10, 11, 12] rfl
        refine vp_callSi (va_Run.run (va_runVN (As := [.int ix, .int 2]) (rest := [.ref pi, .long r_16, .long y_14]) ⟨hx, hb, hml, hown, hts⟩ (c_Fa_corner l dC dI cJ cI fa fas fat faa fan faS faT faA ix 2) (⟨va_cnB 2 hts (gd_0 wd_175) rfl rfl rfl (hN _ nw_13) (hts _ (mw wd_36)) (by decide +kernel) ⟨Nat.le_of_ble_eq_true rfl, Nat.le_of_ble_eq_true rfl⟩, (hts _ (mw wd_174)), (hts _ (mw wd_14))⟩) ⟨fb_ro, va_recv hK hPc (ci := 2) (q0 := 0) rfl rfl, pre_ro hK hN hPc⟩ rfl rfl hl.1 rfl (lv_room (Nat.le_of_ble_eq_true rfl)) d_PC_number_57 ⟨Nat.le_of_ble_eq_true rfl, Nat.le_of_ble_eq_true rfl⟩)) (fun r_17 er_17 => ?_)
        have er_17 : r_17 = f_Fa_corner fan faS faT ix 2 := er_17
        refine lv_iconst (v := 3) hx hb d_PC_number_60 (by decide) ?_
        refine lv_iload hx hb d_PC_number_61 (lv_at hl 6 rfl) ?_
        refine lv_iadd hx hb d_PC_number_63 ?_
        have hPc := hP.sub (ws' := [(pi, .inr (1, [.ref pia, .int pin])), (pia, .inl (cJ, 114, .inr (.inl pif)))]) [7, 8] rfl
        refine vp_callSl (va_Run.run (va_runVN (As := [.int r_17, .int (3 + wh)]) (rest := [.long r_16, .long y_14]) ⟨hx, hb, hml, hown, hts⟩ (c_Ri_at l dC dI cJ cI pi pia pin pif r_17 (3 + wh)) (⟨va_cnB 2 hts (gd_0 wd_136) rfl rfl rfl (hN _ nw_10) (hts _ (mw wd_35)) (by decide +kernel) ⟨Nat.le_of_ble_eq_true rfl, Nat.le_of_ble_eq_true rfl⟩, (hts _ (mw wd_135)), (hts _ (mw wd_5))⟩) ⟨fb_ro, va_recv hK hPc (ci := 1) (q0 := 0) rfl rfl, pre_ro hK hN hPc⟩ rfl rfl hl.1 rfl (lv_room (Nat.le_of_ble_eq_true rfl)) d_PC_number_64 ⟨Nat.le_of_ble_eq_true rfl, Nat.le_of_ble_eq_true rfl⟩)) (fun r_18 er_18 => ?_)
        have er_18 : r_18 = f_Ri_at pin pif r_17 (3 + wh) := er_18
        refine lv_lmul hx hb d_PC_number_67 ?_
        refine lv_ladd hx hb d_PC_number_68 ?_
        refine lv_topl (fun y_19 ey_19 => ?_)
        refine lv_lstore (lv' := [(5, .long y_19), (7, .int 2), (0, .ref ob), (1, .int ix), (2, .int xx), (3, .int yy), (4, .int wh)]) hx hb d_PC_number_69 hl (by decide) rfl (fun ls hl => ?_)
        refine lv_iinc (v := 3) (lv' := [(7, .int 3), (5, .long y_19), (0, .ref ob), (1, .int ix), (2, .int xx), (3, .int yy), (4, .int wh)]) hx hb d_PC_number_71 hl (k := 1) rfl (by decide) (by decide) rfl (fun ls hl => ?_)
        refine lv_goto (tgt := 29) hx hb d_PC_number_74 (by decide) ?_
        refine lv_iload hx hb d_PC_number_29 (lv_at hl 0 rfl) ?_
        refine lv_iconst (v := 3) hx hb d_PC_number_31 (by decide) ?_
        refine lv_icmp_ge (tgt := 77) hx hb d_PC_number_32 (by decide) (fun _ => ?_) (fun c_20 => absurd (by decide) c_20)
        refine lv_lload hx hb d_PC_number_77 (lv_at hl 1 rfl) ?_
        refine lv_aload_n hx hb d_PC_number_79 rfl (lv_at hl 2 rfl) ?_
        refine lv_iload_n hx hb d_PC_number_80 rfl (lv_at hl 3 rfl) ?_
        refine lv_iload_n hx hb d_PC_number_81 rfl (lv_at hl 4 rfl) ?_
        refine lv_iload_n hx hb d_PC_number_82 rfl (lv_at hl 5 rfl) ?_
        have hPc := hP
        refine vp_callSl (va_Run.run (va_runV (As := [.int ix, .int xx, .int yy]) (rest := [.long y_19]) ⟨hx, hb, hml, hown, hts⟩ (c_PC_weightSum l dC dI cJ cI ob wi hi fo gi gia gin gif ke kea ken kef sp spa spn spf pi pia pin pif fa fas fat faa fan faS faT faA ix xx yy) (cwV 3 hts (gd_V wd_213 wd_214 wd_20 wd_33 wd_215) rfl rfl rfl (by decide +kernel) ⟨Nat.le_of_ble_eq_true rfl, Nat.le_of_ble_eq_true rfl⟩) ⟨fb_ro, va_recv hK hPc (ci := 0) (q0 := 0) rfl rfl, pre_ro hK hN hPc⟩ rfl rfl hl.1 rfl (lv_room (Nat.le_of_ble_eq_true rfl)) d_PC_number_83 ⟨Nat.le_of_ble_eq_true rfl, Nat.le_of_ble_eq_true rfl⟩)) (fun r_21 er_21 => ?_)
        have er_21 : r_21 = f_PC_weightSum pin pif fan faS faT ix xx yy := er_21
        refine vp_callSl (va_Run.run (va_runS (As := [.long y_19, .long r_21]) (rest := []) ⟨hx, hb, hml, hown, hts⟩ (c_PC_div l dC dI cJ cI y_19 r_21) (va_cwS 2 hts (gd_S wd_148 wd_149 wd_33 wd_150) rfl rfl rfl (by decide +kernel) ⟨Nat.le_of_ble_eq_true rfl, Nat.le_of_ble_eq_true rfl⟩) ⟨fb_ro, pre_ro hK hN va_nil⟩ rfl rfl hl.1 rfl (lv_room (Nat.le_of_ble_eq_true rfl)) d_PC_number_86 ⟨Nat.le_of_ble_eq_true rfl, Nat.le_of_ble_eq_true rfl⟩)) (fun r_22 er_22 => ?_)
        have er_22 : r_22 = f_PC_div y_19 r_21 := er_22
        refine lv_l2i hx hb d_PC_number_89 rfl ?_
        subst er_3
        subst er_6
        subst er_7
        subst er_8
        subst ey_9
        subst er_11
        subst er_12
        subst er_13
        subst ey_14
        subst er_16
        subst er_17
        subst er_18
        subst ey_19
        subst er_21
        subst er_22
        exact W.iret (v := (f_PC_div (((0 + ((f_PC_weight pin pif fan faS faT ix 0 xx yy) * (f_Ri_at pin pif (f_Fa_corner fan faS faT ix 0) (3 + wh)))) + ((f_PC_weight pin pif fan faS faT ix 1 xx yy) * (f_Ri_at pin pif (f_Fa_corner fan faS faT ix 1) (3 + wh)))) + ((f_PC_weight pin pif fan faS faT ix 2 xx yy) * (f_Ri_at pin pif (f_Fa_corner fan faS faT ix 2) (3 + wh)))) (f_PC_weightSum pin pif fan faS faT ix xx yy)).toInt32) hx hb hr (fun t ht hW => ⟨_, rfl, by rw [f_PC_number, if_neg c_1, if_neg c_2, if_neg c_4], ht⟩) (fun q h => by cases h) d_PC_number_90
      · have c_4 : r_3 = 0 := c_4
        refine lv_iconst (v := 0) hx hb d_PC_number_21 (by decide) ?_
        subst er_3
        exact W.iret (v := 0) hx hb hr (fun t ht hW => ⟨_, rfl, by rw [f_PC_number, if_neg c_1, if_neg c_2, if_pos c_4], ht⟩) (fun q h => by cases h) d_PC_number_22
end
section
def f_PC_focus_r (va : Int32) : Int32 := if va < 8 then 0 else (if va ≤ 512 then 1 else 0)
def f_PC_focus_0_2 (fo : Int32) (va : Int32) : Int32 := if va < 8 then fo else (if va ≤ 512 then va else fo)
set_option maxHeartbeats 4000000 in
set_option maxRecDepth 100000 in
theorem c_PC_focus (l : Launch) (dC : Nat → ClassId) (dI : Nat → Nat → Nat) (cJ cI : ClassId) (sz : Nat) (ob : Nat) (wi : Int32) (hi : Int32) (fo : Int32) (gi : Nat) (gia : Nat) (gin : Int32) (gif : Nat → Int64) (ke : Nat) (kea : Nat) (ken : Int32) (kef : Nat → Int64) (sp : Nat) (spa : Nat) (spn : Int32) (spf : Nat → Int64) (pi : Nat) (pia : Nat) (pin : Int32) (pif : Nat → Int64) (fa : Nat) (fas : Nat) (fat : Nat) (faa : Nat) (fan : Int32) (faS : Nat → Int32) (faT : Nat → Int32) (faA : Nat → Int32) (va : Int32) : Met l y_PC_focus w_PC_focus ({ frames := 0, cells := 0, slots := 0, locals := 0 } : Room) (rq_rw (dC, dI) cJ cI sz [.ref ob, .int va] [(ob, .inr (0, [.int wi, .int hi, .int fo, .ref gi, .ref ke, .ref sp, .ref pi, .ref fa])), (gi, .inr (1, [.ref gia, .int gin])), (gia, .inl (cJ, 114, .inr (.inl gif))), (ke, .inr (1, [.ref kea, .int ken])), (kea, .inl (cJ, 114, .inr (.inl kef))), (sp, .inr (1, [.ref spa, .int spn])), (spa, .inl (cJ, 114, .inr (.inl spf))), (pi, .inr (1, [.ref pia, .int pin])), (pia, .inl (cJ, 114, .inr (.inl pif))), (fa, .inr (2, [.ref fas, .ref fat, .ref faa, .int fan])), (fas, .inl (cI, 17, .inl faS)), (fat, .inl (cI, 17, .inl faT)), (faa, .inl (cI, 17, .inl faA))]) (va_Qi (fun (r : Int32) (_ : Unit) => r = f_PC_focus_r va) (rz (dC, dI) (va_A [(ob, .inr (0, [.int wi, .int hi, .int fo, .ref gi, .ref ke, .ref sp, .ref pi, .ref fa])), (gi, .inr (1, [.ref gia, .int gin])), (gia, .inl (cJ, 114, .inr (.inl gif))), (ke, .inr (1, [.ref kea, .int ken])), (kea, .inl (cJ, 114, .inr (.inl kef))), (sp, .inr (1, [.ref spa, .int spn])), (spa, .inl (cJ, 114, .inr (.inl spf))), (pi, .inr (1, [.ref pia, .int pin])), (pia, .inl (cJ, 114, .inr (.inl pif))), (fa, .inr (2, [.ref fas, .ref fat, .ref faa, .int fan])), (fas, .inl (cI, 17, .inl faS)), (fat, .inl (cI, 17, .inl faT)), (faa, .inl (cI, 17, .inl faA))] sz) [(ob, .inr (0, [.int wi, .int hi, .int (f_PC_focus_0_2 fo va), .ref gi, .ref ke, .ref sp, .ref pi, .ref fa])), (gi, .inr (1, [.ref gia, .int gin])), (gia, .inl (cJ, 114, .inr (.inl gif))), (ke, .inr (1, [.ref kea, .int ken])), (kea, .inl (cJ, 114, .inr (.inl kef))), (sp, .inr (1, [.ref spa, .int spn])), (spa, .inl (cJ, 114, .inr (.inl spf))), (pi, .inr (1, [.ref pia, .int pin])), (pia, .inl (cJ, 114, .inr (.inl pif))), (fa, .inr (2, [.ref fas, .ref fat, .ref faa, .int fan])), (fas, .inl (cI, 17, .inl faS)), (fat, .inl (cI, 17, .inl faT)), (faa, .inl (cI, 17, .inl faA))]) (va_A [(ob, .inr (0, [.int wi, .int hi, .int fo, .ref gi, .ref ke, .ref sp, .ref pi, .ref fa])), (gi, .inr (1, [.ref gia, .int gin])), (gia, .inl (cJ, 114, .inr (.inl gif))), (ke, .inr (1, [.ref kea, .int ken])), (kea, .inl (cJ, 114, .inr (.inl kef))), (sp, .inr (1, [.ref spa, .int spn])), (spa, .inl (cJ, 114, .inr (.inl spf))), (pi, .inr (1, [.ref pia, .int pin])), (pia, .inl (cJ, 114, .inr (.inl pif))), (fa, .inr (2, [.ref fas, .ref fat, .ref faa, .int fan])), (fas, .inl (cI, 17, .inl faS)), (fat, .inl (cI, 17, .inl faT)), (faa, .inl (cI, 17, .inl faA))] sz)) 0 0 (va_A [(ob, .inr (0, [.int wi, .int hi, .int fo, .ref gi, .ref ke, .ref sp, .ref pi, .ref fa])), (gi, .inr (1, [.ref gia, .int gin])), (gia, .inl (cJ, 114, .inr (.inl gif))), (ke, .inr (1, [.ref kea, .int ken])), (kea, .inl (cJ, 114, .inr (.inl kef))), (sp, .inr (1, [.ref spa, .int spn])), (spa, .inl (cJ, 114, .inr (.inl spf))), (pi, .inr (1, [.ref pia, .int pin])), (pia, .inl (cJ, 114, .inr (.inl pif))), (fa, .inr (2, [.ref fas, .ref fat, .ref faa, .int fan])), (fas, .inl (cI, 17, .inl faS)), (fat, .inl (cI, 17, .inl faT)), (faa, .inl (cI, 17, .inl faA))] sz) := by
  refine Met.ofW (cc := b_PC_focus) (maxL := 2) (ret := (some .boolean)) (by decide) rfl ?_
  intro p e s m args below meth c s₁ B hml hv
  obtain ⟨rfl, hsz, hP, hK, hN, hD0⟩ := hv
  have hx := B.exec
  have hb := B.bytes
  have hr := B.returns
  have hts := atoms_spec (ws := w_PC_focus) B.pre
  have hown : s.vm.findClass R_PC = some m.cls := findClass_of_methodNamed B.named
  have hlocks := B.notSynchronized
  subst hsz
  have hD := hD0.self (sz := s.heap.size)
  generalize hAe : va_A [(ob, .inr (0, [.int wi, .int hi, .int fo, .ref gi, .ref ke, .ref sp, .ref pi, .ref fa])), (gi, .inr (1, [.ref gia, .int gin])), (gia, .inl (cJ, 114, .inr (.inl gif))), (ke, .inr (1, [.ref kea, .int ken])), (kea, .inl (cJ, 114, .inr (.inl kef))), (sp, .inr (1, [.ref spa, .int spn])), (spa, .inl (cJ, 114, .inr (.inl spf))), (pi, .inr (1, [.ref pia, .int pin])), (pia, .inl (cJ, 114, .inr (.inl pif))), (fa, .inr (2, [.ref fas, .ref fat, .ref faa, .int fan])), (fas, .inl (cI, 17, .inl faS)), (fat, .inl (cI, 17, .inl faT)), (faa, .inl (cI, 17, .inl faA))] s.heap.size = A at hD ⊢
  have hA : ∀ q : Nat, s.heap.size ≤ q → A q := fun q h => by rw [← hAe]; exact Or.inr h
  have hS : va_S A s.heap s.heap [] := va_S.rf
  have hl := lv_entry ([.ref ob, .int va]) (n := 2) (Nat.le_of_ble_eq_true rfl)
  rw [lg_entry_eq]
  generalize (lg_sl ([.ref ob, .int va]) ++ List.replicate (2 - (lg_sl ([.ref ob, .int va])).length) Slot.unset).toArray = ls at hl ⊢
  have hl : lv_has ls 2 [(0, .ref ob), (1, .int va)] := hl
  have hP : va_P (dC, dI) cls4 [(ob, .inr (0, [.int wi, .int hi, .int fo, .ref gi, .ref ke, .ref sp, .ref pi, .ref fa])), (gi, .inr (1, [.ref gia, .int gin])), (gia, .inl (cJ, 114, .inr (.inl gif))), (ke, .inr (1, [.ref kea, .int ken])), (kea, .inl (cJ, 114, .inr (.inl kef))), (sp, .inr (1, [.ref spa, .int spn])), (spa, .inl (cJ, 114, .inr (.inl spf))), (pi, .inr (1, [.ref pia, .int pin])), (pia, .inl (cJ, 114, .inr (.inl pif))), (fa, .inr (2, [.ref fas, .ref fat, .ref faa, .int fan])), (fas, .inl (cI, 17, .inl faS)), (fat, .inl (cI, 17, .inl faT)), (faa, .inl (cI, 17, .inl faA))] s.heap := hP
  refine lv_iload_n hx hb d_PC_focus_0 rfl (lv_at hl 1 rfl) ?_
  refine lv_bipush (v := 8) hx hb d_PC_focus_1 (by decide) ?_
  refine lv_icmp_lt (tgt := 13) hx hb d_PC_focus_3 (by decide) (fun c_1 => ?_) (fun c_1 => ?_)
  · have c_1 : va < 8 := c_1
    refine lv_iconst (v := 0) hx hb d_PC_focus_13 (by decide) ?_
    have ew_2 : f_PC_focus_r va = 0 := by rw [f_PC_focus_r, if_pos c_1]
    have ew_3 : f_PC_focus_0_2 fo va = fo := by rw [f_PC_focus_0_2, if_pos c_1]
    exact W.zret (v := 0) hx hb hr (by decide) (fun t ht hW => ⟨⟨_, (), rfl, by rw [f_PC_focus_r, if_pos c_1], by rw [ht, ew_3]; exact hP, by rw [ew_3]; exact hD⟩, hS.F ht⟩) hS.2.2 d_PC_focus_14
  · have c_1 : ¬ (va < 8) := c_1
    refine lv_iload_n hx hb d_PC_focus_6 rfl (lv_at hl 1 rfl) ?_
    refine lv_sipush (v := 512) hx hb d_PC_focus_7 (by decide) ?_
    refine lv_icmp_le (tgt := 15) hx hb d_PC_focus_10 (by decide) (fun c_4 => ?_) (fun c_4 => ?_)
    · have c_4 : va ≤ 512 := c_4
      refine lv_aload_n hx hb d_PC_focus_15 rfl (lv_at hl 0 rfl) ?_
      refine lv_iload_n hx hb d_PC_focus_16 rfl (lv_at hl 1 rfl) ?_
      refine va_put (D := (dC, dI)) (ci := 0) (v := .int va) (ty := .int) (C := R_PC) (T := F_PC) (N := 8) hx hb hts (fun w h => mw (i_PC w h)) t_PC t_PC_ok n_PC hown hK hP hD hS 0 rfl rfl 2 (by decide) (hts _ (mw wd_83)) (fun _ h9 => h9) rfl (by decide +kernel) rfl rfl (Nat.le_of_ble_eq_true rfl) d_PC_focus_17 (fun H locs hP hD hS => ?_)
      have hP : va_P (dC, dI) cls4 [(ob, .inr (0, [.int wi, .int hi, .int va, .ref gi, .ref ke, .ref sp, .ref pi, .ref fa])), (gi, .inr (1, [.ref gia, .int gin])), (gia, .inl (cJ, 114, .inr (.inl gif))), (ke, .inr (1, [.ref kea, .int ken])), (kea, .inl (cJ, 114, .inr (.inl kef))), (sp, .inr (1, [.ref spa, .int spn])), (spa, .inl (cJ, 114, .inr (.inl spf))), (pi, .inr (1, [.ref pia, .int pin])), (pia, .inl (cJ, 114, .inr (.inl pif))), (fa, .inr (2, [.ref fas, .ref fat, .ref faa, .int fan])), (fas, .inl (cI, 17, .inl faS)), (fat, .inl (cI, 17, .inl faT)), (faa, .inl (cI, 17, .inl faA))] H := hP
      have hD : va_D A [(ob, .inr (0, [.int wi, .int hi, .int va, .ref gi, .ref ke, .ref sp, .ref pi, .ref fa])), (gi, .inr (1, [.ref gia, .int gin])), (gia, .inl (cJ, 114, .inr (.inl gif))), (ke, .inr (1, [.ref kea, .int ken])), (kea, .inl (cJ, 114, .inr (.inl kef))), (sp, .inr (1, [.ref spa, .int spn])), (spa, .inl (cJ, 114, .inr (.inl spf))), (pi, .inr (1, [.ref pia, .int pin])), (pia, .inl (cJ, 114, .inr (.inl pif))), (fa, .inr (2, [.ref fas, .ref fat, .ref faa, .int fan])), (fas, .inl (cI, 17, .inl faS)), (fat, .inl (cI, 17, .inl faT)), (faa, .inl (cI, 17, .inl faA))] := hD
      refine lv_iconst (v := 1) hx hb d_PC_focus_20 (by decide) ?_
      have ew_5 : f_PC_focus_r va = 1 := by rw [f_PC_focus_r, if_neg c_1, if_pos c_4]
      have ew_6 : f_PC_focus_0_2 fo va = va := by rw [f_PC_focus_0_2, if_neg c_1, if_pos c_4]
      exact W.zret (v := 1) hx hb hr (by decide) (fun t ht hW => ⟨⟨_, (), rfl, by rw [f_PC_focus_r, if_neg c_1, if_pos c_4], by rw [ht, ew_6]; exact hP, by rw [ew_6]; exact hD⟩, hS.F ht⟩) hS.2.2 d_PC_focus_21
    · have c_4 : ¬ (va ≤ 512) := c_4
      refine lv_iconst (v := 0) hx hb d_PC_focus_13 (by decide) ?_
      have ew_7 : f_PC_focus_r va = 0 := by rw [f_PC_focus_r, if_neg c_1, if_neg c_4]
      have ew_8 : f_PC_focus_0_2 fo va = fo := by rw [f_PC_focus_0_2, if_neg c_1, if_neg c_4]
      exact W.zret (v := 0) hx hb hr (by decide) (fun t ht hW => ⟨⟨_, (), rfl, by rw [f_PC_focus_r, if_neg c_1, if_neg c_4], by rw [ht, ew_8]; exact hP, by rw [ew_8]; exact hD⟩, hS.F ht⟩) hS.2.2 d_PC_focus_14
def f_PC_place_r (gin : Int32) (ix : Int32) (xx : Int32) (yy : Int32) (zz : Int32) : Int32 := if (f_Ri_has gin ix) = 0 then 0 else (if (f_PC_isPlace xx) = 0 then 0 else (if (f_PC_isPlace yy) = 0 then 0 else (if (f_PC_isPlace zz) = 0 then 0 else 1)))
def f_PC_place_2 (gin : Int32) (gif : Nat → Int64) (ix : Int32) (xx : Int32) (yy : Int32) (zz : Int32) : Nat → Int64 := if (f_Ri_has gin ix) = 0 then gif else (if (f_PC_isPlace xx) = 0 then gif else (if (f_PC_isPlace yy) = 0 then gif else (if (f_PC_isPlace zz) = 0 then gif else (f_Ri_put_1 gin (f_Ri_put_1 gin (f_Ri_put_1 gin gif ix 0 xx.toInt64) ix 1 yy.toInt64) ix 2 zz.toInt64))))
set_option maxHeartbeats 4000000 in
set_option maxRecDepth 100000 in
theorem c_PC_place (l : Launch) (dC : Nat → ClassId) (dI : Nat → Nat → Nat) (cJ cI : ClassId) (sz : Nat) (ob : Nat) (wi : Int32) (hi : Int32) (fo : Int32) (gi : Nat) (gia : Nat) (gin : Int32) (gif : Nat → Int64) (ke : Nat) (kea : Nat) (ken : Int32) (kef : Nat → Int64) (sp : Nat) (spa : Nat) (spn : Int32) (spf : Nat → Int64) (pi : Nat) (pia : Nat) (pin : Int32) (pif : Nat → Int64) (fa : Nat) (fas : Nat) (fat : Nat) (faa : Nat) (fan : Int32) (faS : Nat → Int32) (faT : Nat → Int32) (faA : Nat → Int32) (ix : Int32) (xx : Int32) (yy : Int32) (zz : Int32) : Met l y_PC_place w_PC_place ({ frames := 2, cells := 0, slots := 0, locals := 45 } : Room) (rq_rw (dC, dI) cJ cI sz [.ref ob, .int ix, .int xx, .int yy, .int zz] [(ob, .inr (0, [.int wi, .int hi, .int fo, .ref gi, .ref ke, .ref sp, .ref pi, .ref fa])), (gi, .inr (1, [.ref gia, .int gin])), (gia, .inl (cJ, 114, .inr (.inl gif))), (ke, .inr (1, [.ref kea, .int ken])), (kea, .inl (cJ, 114, .inr (.inl kef))), (sp, .inr (1, [.ref spa, .int spn])), (spa, .inl (cJ, 114, .inr (.inl spf))), (pi, .inr (1, [.ref pia, .int pin])), (pia, .inl (cJ, 114, .inr (.inl pif))), (fa, .inr (2, [.ref fas, .ref fat, .ref faa, .int fan])), (fas, .inl (cI, 17, .inl faS)), (fat, .inl (cI, 17, .inl faT)), (faa, .inl (cI, 17, .inl faA))]) (va_Qi (fun (r : Int32) (_ : Unit) => r = f_PC_place_r gin ix xx yy zz) (rz (dC, dI) (va_A [(ob, .inr (0, [.int wi, .int hi, .int fo, .ref gi, .ref ke, .ref sp, .ref pi, .ref fa])), (gi, .inr (1, [.ref gia, .int gin])), (gia, .inl (cJ, 114, .inr (.inl gif))), (ke, .inr (1, [.ref kea, .int ken])), (kea, .inl (cJ, 114, .inr (.inl kef))), (sp, .inr (1, [.ref spa, .int spn])), (spa, .inl (cJ, 114, .inr (.inl spf))), (pi, .inr (1, [.ref pia, .int pin])), (pia, .inl (cJ, 114, .inr (.inl pif))), (fa, .inr (2, [.ref fas, .ref fat, .ref faa, .int fan])), (fas, .inl (cI, 17, .inl faS)), (fat, .inl (cI, 17, .inl faT)), (faa, .inl (cI, 17, .inl faA))] sz) [(ob, .inr (0, [.int wi, .int hi, .int fo, .ref gi, .ref ke, .ref sp, .ref pi, .ref fa])), (gi, .inr (1, [.ref gia, .int gin])), (gia, .inl (cJ, 114, .inr (.inl (f_PC_place_2 gin gif ix xx yy zz)))), (ke, .inr (1, [.ref kea, .int ken])), (kea, .inl (cJ, 114, .inr (.inl kef))), (sp, .inr (1, [.ref spa, .int spn])), (spa, .inl (cJ, 114, .inr (.inl spf))), (pi, .inr (1, [.ref pia, .int pin])), (pia, .inl (cJ, 114, .inr (.inl pif))), (fa, .inr (2, [.ref fas, .ref fat, .ref faa, .int fan])), (fas, .inl (cI, 17, .inl faS)), (fat, .inl (cI, 17, .inl faT)), (faa, .inl (cI, 17, .inl faA))]) (va_A [(ob, .inr (0, [.int wi, .int hi, .int fo, .ref gi, .ref ke, .ref sp, .ref pi, .ref fa])), (gi, .inr (1, [.ref gia, .int gin])), (gia, .inl (cJ, 114, .inr (.inl gif))), (ke, .inr (1, [.ref kea, .int ken])), (kea, .inl (cJ, 114, .inr (.inl kef))), (sp, .inr (1, [.ref spa, .int spn])), (spa, .inl (cJ, 114, .inr (.inl spf))), (pi, .inr (1, [.ref pia, .int pin])), (pia, .inl (cJ, 114, .inr (.inl pif))), (fa, .inr (2, [.ref fas, .ref fat, .ref faa, .int fan])), (fas, .inl (cI, 17, .inl faS)), (fat, .inl (cI, 17, .inl faT)), (faa, .inl (cI, 17, .inl faA))] sz)) 0 0 (va_A [(ob, .inr (0, [.int wi, .int hi, .int fo, .ref gi, .ref ke, .ref sp, .ref pi, .ref fa])), (gi, .inr (1, [.ref gia, .int gin])), (gia, .inl (cJ, 114, .inr (.inl gif))), (ke, .inr (1, [.ref kea, .int ken])), (kea, .inl (cJ, 114, .inr (.inl kef))), (sp, .inr (1, [.ref spa, .int spn])), (spa, .inl (cJ, 114, .inr (.inl spf))), (pi, .inr (1, [.ref pia, .int pin])), (pia, .inl (cJ, 114, .inr (.inl pif))), (fa, .inr (2, [.ref fas, .ref fat, .ref faa, .int fan])), (fas, .inl (cI, 17, .inl faS)), (fat, .inl (cI, 17, .inl faT)), (faa, .inl (cI, 17, .inl faA))] sz) := by
  refine Met.ofW (cc := b_PC_place) (maxL := 5) (ret := (some .boolean)) (by decide) rfl ?_
  intro p e s m args below meth c s₁ B hml hv
  obtain ⟨rfl, hsz, hP, hK, hN, hD0⟩ := hv
  have hx := B.exec
  have hb := B.bytes
  have hr := B.returns
  have hts := atoms_spec (ws := w_PC_place) B.pre
  have hown : s.vm.findClass R_PC = some m.cls := findClass_of_methodNamed B.named
  have hlocks := B.notSynchronized
  subst hsz
  have hD := hD0.self (sz := s.heap.size)
  generalize hAe : va_A [(ob, .inr (0, [.int wi, .int hi, .int fo, .ref gi, .ref ke, .ref sp, .ref pi, .ref fa])), (gi, .inr (1, [.ref gia, .int gin])), (gia, .inl (cJ, 114, .inr (.inl gif))), (ke, .inr (1, [.ref kea, .int ken])), (kea, .inl (cJ, 114, .inr (.inl kef))), (sp, .inr (1, [.ref spa, .int spn])), (spa, .inl (cJ, 114, .inr (.inl spf))), (pi, .inr (1, [.ref pia, .int pin])), (pia, .inl (cJ, 114, .inr (.inl pif))), (fa, .inr (2, [.ref fas, .ref fat, .ref faa, .int fan])), (fas, .inl (cI, 17, .inl faS)), (fat, .inl (cI, 17, .inl faT)), (faa, .inl (cI, 17, .inl faA))] s.heap.size = A at hD ⊢
  have hA : ∀ q : Nat, s.heap.size ≤ q → A q := fun q h => by rw [← hAe]; exact Or.inr h
  have hS : va_S A s.heap s.heap [] := va_S.rf
  have hl := lv_entry ([.ref ob, .int ix, .int xx, .int yy, .int zz]) (n := 5) (Nat.le_of_ble_eq_true rfl)
  rw [lg_entry_eq]
  generalize (lg_sl ([.ref ob, .int ix, .int xx, .int yy, .int zz]) ++ List.replicate (5 - (lg_sl ([.ref ob, .int ix, .int xx, .int yy, .int zz])).length) Slot.unset).toArray = ls at hl ⊢
  have hl : lv_has ls 5 [(0, .ref ob), (1, .int ix), (2, .int xx), (3, .int yy), (4, .int zz)] := hl
  have hP : va_P (dC, dI) cls4 [(ob, .inr (0, [.int wi, .int hi, .int fo, .ref gi, .ref ke, .ref sp, .ref pi, .ref fa])), (gi, .inr (1, [.ref gia, .int gin])), (gia, .inl (cJ, 114, .inr (.inl gif))), (ke, .inr (1, [.ref kea, .int ken])), (kea, .inl (cJ, 114, .inr (.inl kef))), (sp, .inr (1, [.ref spa, .int spn])), (spa, .inl (cJ, 114, .inr (.inl spf))), (pi, .inr (1, [.ref pia, .int pin])), (pia, .inl (cJ, 114, .inr (.inl pif))), (fa, .inr (2, [.ref fas, .ref fat, .ref faa, .int fan])), (fas, .inl (cI, 17, .inl faS)), (fat, .inl (cI, 17, .inl faT)), (faa, .inl (cI, 17, .inl faA))] s.heap := hP
  refine lv_aload_n hx hb d_PC_place_0 rfl (lv_at hl 0 rfl) ?_
  refine va_get (D := (dC, dI)) (ci := 0) (v := .ref gi) (C := R_PC) (T := F_PC) (N := 8) hx hb hts (fun w h => mw (i_PC w h)) hown hK hP 0 rfl rfl 3 (by decide) (hts _ (mw wd_84)) (fun _ h9 => h9) rfl d_PC_place_1 ?_
  refine lv_iload_n hx hb d_PC_place_4 rfl (lv_at hl 1 rfl) ?_
  have hPc := hP.sub (ws' := [(gi, .inr (1, [.ref gia, .int gin])), (gia, .inl (cJ, 114, .inr (.inl gif)))]) [1, 2] rfl
  refine vp_callSi (va_Run.run (va_runVN (As := [.int ix]) (rest := []) ⟨hx, hb, hml, hown, hts⟩ (c_Ri_has l dC dI cJ cI gi gia gin gif ix) (⟨va_cnB 1 hts (gd_0 wd_106) rfl rfl rfl (hN _ nw_6) (hts _ (mw wd_35)) (by decide +kernel) ⟨Nat.le_of_ble_eq_true rfl, Nat.le_of_ble_eq_true rfl⟩, (hts _ (mw wd_105)), (hts _ (mw wd_1))⟩) ⟨fb_ro, va_recv hK hPc (ci := 1) (q0 := 0) rfl rfl, pre_ro hK hN hPc⟩ rfl rfl hl.1 rfl (lv_room (Nat.le_of_ble_eq_true rfl)) d_PC_place_5 ⟨Nat.le_of_ble_eq_true rfl, Nat.le_of_ble_eq_true rfl⟩)) (fun r_1 er_1 => ?_)
  have er_1 : r_1 = f_Ri_has gin ix := er_1
  refine lv_if_eq (tgt := 33) hx hb d_PC_place_8 (by decide) (fun c_2 => ?_) (fun c_2 => ?_)
  · have c_2 : r_1 = 0 := c_2
    refine lv_iconst (v := 0) hx hb d_PC_place_33 (by decide) ?_
    subst er_1
    have ew_3 : f_PC_place_r gin ix xx yy zz = 0 := by rw [f_PC_place_r, if_pos c_2]
    have ew_4 : f_PC_place_2 gin gif ix xx yy zz = gif := by rw [f_PC_place_2, if_pos c_2]
    exact W.zret (v := 0) hx hb hr (by decide) (fun t ht hW => ⟨⟨_, (), rfl, by rw [f_PC_place_r, if_pos c_2], by rw [ht, ew_4]; exact hP, by rw [ew_4]; exact hD⟩, hS.F ht⟩) hS.2.2 d_PC_place_34
  · have c_2 : ¬ (r_1 = 0) := c_2
    refine lv_iload_n hx hb d_PC_place_11 rfl (lv_at hl 2 rfl) ?_
    refine vp_callSi (va_Run.run (va_runS (As := [.int xx]) (rest := []) ⟨hx, hb, hml, hown, hts⟩ (c_PC_isPlace l dC dI cJ cI xx) (va_cwS 1 hts (gd_S wd_107 wd_108 wd_33 wd_109) rfl rfl rfl (by decide +kernel) ⟨Nat.le_of_ble_eq_true rfl, Nat.le_of_ble_eq_true rfl⟩) ⟨fb_ro, pre_ro hK hN va_nil⟩ rfl rfl hl.1 rfl (lv_room (Nat.le_of_ble_eq_true rfl)) d_PC_place_12 ⟨Nat.le_of_ble_eq_true rfl, Nat.le_of_ble_eq_true rfl⟩)) (fun r_5 er_5 => ?_)
    have er_5 : r_5 = f_PC_isPlace xx := er_5
    refine lv_if_eq (tgt := 33) hx hb d_PC_place_15 (by decide) (fun c_6 => ?_) (fun c_6 => ?_)
    · have c_6 : r_5 = 0 := c_6
      refine lv_iconst (v := 0) hx hb d_PC_place_33 (by decide) ?_
      subst er_1
      subst er_5
      have ew_7 : f_PC_place_r gin ix xx yy zz = 0 := by rw [f_PC_place_r, if_neg c_2, if_pos c_6]
      have ew_8 : f_PC_place_2 gin gif ix xx yy zz = gif := by rw [f_PC_place_2, if_neg c_2, if_pos c_6]
      exact W.zret (v := 0) hx hb hr (by decide) (fun t ht hW => ⟨⟨_, (), rfl, by rw [f_PC_place_r, if_neg c_2, if_pos c_6], by rw [ht, ew_8]; exact hP, by rw [ew_8]; exact hD⟩, hS.F ht⟩) hS.2.2 d_PC_place_34
    · have c_6 : ¬ (r_5 = 0) := c_6
      refine lv_iload_n hx hb d_PC_place_18 rfl (lv_at hl 3 rfl) ?_
      refine vp_callSi (va_Run.run (va_runS (As := [.int yy]) (rest := []) ⟨hx, hb, hml, hown, hts⟩ (c_PC_isPlace l dC dI cJ cI yy) (va_cwS 1 hts (gd_S wd_107 wd_108 wd_33 wd_109) rfl rfl rfl (by decide +kernel) ⟨Nat.le_of_ble_eq_true rfl, Nat.le_of_ble_eq_true rfl⟩) ⟨fb_ro, pre_ro hK hN va_nil⟩ rfl rfl hl.1 rfl (lv_room (Nat.le_of_ble_eq_true rfl)) d_PC_place_19 ⟨Nat.le_of_ble_eq_true rfl, Nat.le_of_ble_eq_true rfl⟩)) (fun r_9 er_9 => ?_)
      have er_9 : r_9 = f_PC_isPlace yy := er_9
      refine lv_if_eq (tgt := 33) hx hb d_PC_place_22 (by decide) (fun c_10 => ?_) (fun c_10 => ?_)
      · have c_10 : r_9 = 0 := c_10
        refine lv_iconst (v := 0) hx hb d_PC_place_33 (by decide) ?_
        subst er_1
        subst er_5
        subst er_9
        have ew_11 : f_PC_place_r gin ix xx yy zz = 0 := by rw [f_PC_place_r, if_neg c_2, if_neg c_6, if_pos c_10]
        have ew_12 : f_PC_place_2 gin gif ix xx yy zz = gif := by rw [f_PC_place_2, if_neg c_2, if_neg c_6, if_pos c_10]
        exact W.zret (v := 0) hx hb hr (by decide) (fun t ht hW => ⟨⟨_, (), rfl, by rw [f_PC_place_r, if_neg c_2, if_neg c_6, if_pos c_10], by rw [ht, ew_12]; exact hP, by rw [ew_12]; exact hD⟩, hS.F ht⟩) hS.2.2 d_PC_place_34
      · have c_10 : ¬ (r_9 = 0) := c_10
        refine lv_iload hx hb d_PC_place_25 (lv_at hl 4 rfl) ?_
        refine vp_callSi (va_Run.run (va_runS (As := [.int zz]) (rest := []) ⟨hx, hb, hml, hown, hts⟩ (c_PC_isPlace l dC dI cJ cI zz) (va_cwS 1 hts (gd_S wd_107 wd_108 wd_33 wd_109) rfl rfl rfl (by decide +kernel) ⟨Nat.le_of_ble_eq_true rfl, Nat.le_of_ble_eq_true rfl⟩) ⟨fb_ro, pre_ro hK hN va_nil⟩ rfl rfl hl.1 rfl (lv_room (Nat.le_of_ble_eq_true rfl)) d_PC_place_27 ⟨Nat.le_of_ble_eq_true rfl, Nat.le_of_ble_eq_true rfl⟩)) (fun r_13 er_13 => ?_)
        have er_13 : r_13 = f_PC_isPlace zz := er_13
        refine lv_if_ne (tgt := 35) hx hb d_PC_place_30 (by decide) (fun c_14 => ?_) (fun c_14 => ?_)
        · have c_14 : ¬ (r_13 = 0) := c_14
          refine lv_aload_n hx hb d_PC_place_35 rfl (lv_at hl 0 rfl) ?_
          refine va_get (D := (dC, dI)) (ci := 0) (v := .ref gi) (C := R_PC) (T := F_PC) (N := 8) hx hb hts (fun w h => mw (i_PC w h)) hown hK hP 0 rfl rfl 3 (by decide) (hts _ (mw wd_84)) (fun _ h9 => h9) rfl d_PC_place_36 ?_
          refine lv_iload_n hx hb d_PC_place_39 rfl (lv_at hl 1 rfl) ?_
          refine lv_iconst (v := 0) hx hb d_PC_place_40 (by decide) ?_
          refine lv_iload_n hx hb d_PC_place_41 rfl (lv_at hl 2 rfl) ?_
          refine lv_i2l hx hb d_PC_place_42 rfl ?_
          have hPc := hP.sub (ws' := [(gi, .inr (1, [.ref gia, .int gin])), (gia, .inl (cJ, 114, .inr (.inl gif)))]) [1, 2] rfl
          have hDc := hD.sub (ws' := [(gi, .inr (1, [.ref gia, .int gin])), (gia, .inl (cJ, 114, .inr (.inl gif)))]) [1, 2] (by decide) rfl
          have hFc := va_free (wc := [(gi, .inr (1, [.ref gia, .int gin])), (gia, .inl (cJ, 114, .inr (.inl gif)))]) hD hS hA [1, 2] rfl
          refine va_callv (va_runVN (As := [.int ix, .int 0, .long xx.toInt64]) (rest := []) ⟨hx, hb, hml, hown, hts⟩ (c_Ri_put l dC dI cJ cI s.heap.size gi gia gin gif ix 0 xx.toInt64) (⟨va_cnB 3 hts (gd_0 wd_113) rfl rfl rfl (hN _ nw_7) (hts _ (mw wd_35)) (by decide +kernel) ⟨Nat.le_of_ble_eq_true rfl, Nat.le_of_ble_eq_true rfl⟩, (hts _ (mw wd_112)), (hts _ (mw wd_2))⟩) ⟨fb_rw, va_recv hK hPc (ci := 1) (q0 := 0) rfl rfl, pre_rw hK hN hPc hDc⟩ rfl rfl hl.1 rfl (lv_room (Nat.le_of_ble_eq_true rfl)) d_PC_place_43 ⟨Nat.le_of_ble_eq_true rfl, Nat.le_of_ble_eq_true rfl⟩) hS (fun q _ h => hFc q h) hFc (fun u t H locs ht hvm hw hB hz1 hk1 hS => ?_)
          obtain ⟨hP1, hD1⟩ := hB
          rw [ht] at hP1
          obtain ⟨hP, hD⟩ := va_join (wr := [(ob, .inr (0, [.int wi, .int hi, .int fo, .ref gi, .ref ke, .ref sp, .ref pi, .ref fa])), (ke, .inr (1, [.ref kea, .int ken])), (kea, .inl (cJ, 114, .inr (.inl kef))), (sp, .inr (1, [.ref spa, .int spn])), (spa, .inl (cJ, 114, .inr (.inl spf))), (pi, .inr (1, [.ref pia, .int pin])), (pia, .inl (cJ, 114, .inr (.inl pif))), (fa, .inr (2, [.ref fas, .ref fat, .ref faa, .int fan])), (fas, .inl (cI, 17, .inl faS)), (fat, .inl (cI, 17, .inl faT)), (faa, .inl (cI, 17, .inl faA))]) (w1 := [(gi, .inr (1, [.ref gia, .int gin])), (gia, .inl (cJ, 114, .inr (.inl (f_Ri_put_1 gin gif ix 0 xx.toInt64))))]) hP hD [1, 2] [0, 3, 4, 5, 6, 7, 8, 9, 10, 11, 12] rfl rfl (by decide) (by decide) hk1 hFc hP1 hD1
          have hP : va_P (dC, dI) cls4 [(ob, .inr (0, [.int wi, .int hi, .int fo, .ref gi, .ref ke, .ref sp, .ref pi, .ref fa])), (gi, .inr (1, [.ref gia, .int gin])), (gia, .inl (cJ, 114, .inr (.inl (f_Ri_put_1 gin gif ix 0 xx.toInt64)))), (ke, .inr (1, [.ref kea, .int ken])), (kea, .inl (cJ, 114, .inr (.inl kef))), (sp, .inr (1, [.ref spa, .int spn])), (spa, .inl (cJ, 114, .inr (.inl spf))), (pi, .inr (1, [.ref pia, .int pin])), (pia, .inl (cJ, 114, .inr (.inl pif))), (fa, .inr (2, [.ref fas, .ref fat, .ref faa, .int fan])), (fas, .inl (cI, 17, .inl faS)), (fat, .inl (cI, 17, .inl faT)), (faa, .inl (cI, 17, .inl faA))] H := hP.sub [0, 11, 12, 1, 2, 3, 4, 5, 6, 7, 8, 9, 10] rfl
          have hD : va_D A [(ob, .inr (0, [.int wi, .int hi, .int fo, .ref gi, .ref ke, .ref sp, .ref pi, .ref fa])), (gi, .inr (1, [.ref gia, .int gin])), (gia, .inl (cJ, 114, .inr (.inl (f_Ri_put_1 gin gif ix 0 xx.toInt64)))), (ke, .inr (1, [.ref kea, .int ken])), (kea, .inl (cJ, 114, .inr (.inl kef))), (sp, .inr (1, [.ref spa, .int spn])), (spa, .inl (cJ, 114, .inr (.inl spf))), (pi, .inr (1, [.ref pia, .int pin])), (pia, .inl (cJ, 114, .inr (.inl pif))), (fa, .inr (2, [.ref fas, .ref fat, .ref faa, .int fan])), (fas, .inl (cI, 17, .inl faS)), (fat, .inl (cI, 17, .inl faT)), (faa, .inl (cI, 17, .inl faA))] := hD.sub [0, 11, 12, 1, 2, 3, 4, 5, 6, 7, 8, 9, 10] (by decide) rfl
          refine lv_aload_n hx hb d_PC_place_46 rfl (lv_at hl 0 rfl) ?_
          refine va_get (D := (dC, dI)) (ci := 0) (v := .ref gi) (C := R_PC) (T := F_PC) (N := 8) hx hb hts (fun w h => mw (i_PC w h)) hown hK hP 0 rfl rfl 3 (by decide) (hts _ (mw wd_84)) (fun _ h9 => h9) rfl d_PC_place_47 ?_
          refine lv_iload_n hx hb d_PC_place_50 rfl (lv_at hl 1 rfl) ?_
          refine lv_iconst (v := 1) hx hb d_PC_place_51 (by decide) ?_
          refine lv_iload_n hx hb d_PC_place_52 rfl (lv_at hl 3 rfl) ?_
          refine lv_i2l hx hb d_PC_place_53 rfl ?_
          have hPc := hP.sub (ws' := [(gi, .inr (1, [.ref gia, .int gin])), (gia, .inl (cJ, 114, .inr (.inl (f_Ri_put_1 gin gif ix 0 xx.toInt64))))]) [1, 2] rfl
          have hDc := hD.sub (ws' := [(gi, .inr (1, [.ref gia, .int gin])), (gia, .inl (cJ, 114, .inr (.inl (f_Ri_put_1 gin gif ix 0 xx.toInt64))))]) [1, 2] (by decide) rfl
          have hFc := va_free (wc := [(gi, .inr (1, [.ref gia, .int gin])), (gia, .inl (cJ, 114, .inr (.inl (f_Ri_put_1 gin gif ix 0 xx.toInt64))))]) hD hS hA [1, 2] rfl
          refine va_callv (va_runVN (As := [.int ix, .int 1, .long yy.toInt64]) (rest := []) ⟨hx, hb, hml, hown, hts⟩ (c_Ri_put l dC dI cJ cI H.size gi gia gin (f_Ri_put_1 gin gif ix 0 xx.toInt64) ix 1 yy.toInt64) (⟨va_cnB 3 hts (gd_0 wd_113) rfl rfl rfl (hN _ nw_7) (hts _ (mw wd_35)) (by decide +kernel) ⟨Nat.le_of_ble_eq_true rfl, Nat.le_of_ble_eq_true rfl⟩, (hts _ (mw wd_112)), (hts _ (mw wd_2))⟩) ⟨fb_rw, va_recv hK hPc (ci := 1) (q0 := 0) rfl rfl, pre_rw hK hN hPc hDc⟩ rfl rfl hl.1 rfl (lv_room (Nat.le_of_ble_eq_true rfl)) d_PC_place_54 ⟨Nat.le_of_ble_eq_true rfl, Nat.le_of_ble_eq_true rfl⟩) hS (fun q _ h => hFc q h) hFc (fun u t H locs ht hvm hw hB hz1 hk1 hS => ?_)
          obtain ⟨hP1, hD1⟩ := hB
          rw [ht] at hP1
          obtain ⟨hP, hD⟩ := va_join (wr := [(ob, .inr (0, [.int wi, .int hi, .int fo, .ref gi, .ref ke, .ref sp, .ref pi, .ref fa])), (ke, .inr (1, [.ref kea, .int ken])), (kea, .inl (cJ, 114, .inr (.inl kef))), (sp, .inr (1, [.ref spa, .int spn])), (spa, .inl (cJ, 114, .inr (.inl spf))), (pi, .inr (1, [.ref pia, .int pin])), (pia, .inl (cJ, 114, .inr (.inl pif))), (fa, .inr (2, [.ref fas, .ref fat, .ref faa, .int fan])), (fas, .inl (cI, 17, .inl faS)), (fat, .inl (cI, 17, .inl faT)), (faa, .inl (cI, 17, .inl faA))]) (w1 := [(gi, .inr (1, [.ref gia, .int gin])), (gia, .inl (cJ, 114, .inr (.inl (f_Ri_put_1 gin (f_Ri_put_1 gin gif ix 0 xx.toInt64) ix 1 yy.toInt64))))]) hP hD [1, 2] [0, 3, 4, 5, 6, 7, 8, 9, 10, 11, 12] rfl rfl (by decide) (by decide) hk1 hFc hP1 hD1
          have hP : va_P (dC, dI) cls4 [(ob, .inr (0, [.int wi, .int hi, .int fo, .ref gi, .ref ke, .ref sp, .ref pi, .ref fa])), (gi, .inr (1, [.ref gia, .int gin])), (gia, .inl (cJ, 114, .inr (.inl (f_Ri_put_1 gin (f_Ri_put_1 gin gif ix 0 xx.toInt64) ix 1 yy.toInt64)))), (ke, .inr (1, [.ref kea, .int ken])), (kea, .inl (cJ, 114, .inr (.inl kef))), (sp, .inr (1, [.ref spa, .int spn])), (spa, .inl (cJ, 114, .inr (.inl spf))), (pi, .inr (1, [.ref pia, .int pin])), (pia, .inl (cJ, 114, .inr (.inl pif))), (fa, .inr (2, [.ref fas, .ref fat, .ref faa, .int fan])), (fas, .inl (cI, 17, .inl faS)), (fat, .inl (cI, 17, .inl faT)), (faa, .inl (cI, 17, .inl faA))] H := hP.sub [0, 11, 12, 1, 2, 3, 4, 5, 6, 7, 8, 9, 10] rfl
          have hD : va_D A [(ob, .inr (0, [.int wi, .int hi, .int fo, .ref gi, .ref ke, .ref sp, .ref pi, .ref fa])), (gi, .inr (1, [.ref gia, .int gin])), (gia, .inl (cJ, 114, .inr (.inl (f_Ri_put_1 gin (f_Ri_put_1 gin gif ix 0 xx.toInt64) ix 1 yy.toInt64)))), (ke, .inr (1, [.ref kea, .int ken])), (kea, .inl (cJ, 114, .inr (.inl kef))), (sp, .inr (1, [.ref spa, .int spn])), (spa, .inl (cJ, 114, .inr (.inl spf))), (pi, .inr (1, [.ref pia, .int pin])), (pia, .inl (cJ, 114, .inr (.inl pif))), (fa, .inr (2, [.ref fas, .ref fat, .ref faa, .int fan])), (fas, .inl (cI, 17, .inl faS)), (fat, .inl (cI, 17, .inl faT)), (faa, .inl (cI, 17, .inl faA))] := hD.sub [0, 11, 12, 1, 2, 3, 4, 5, 6, 7, 8, 9, 10] (by decide) rfl
          refine lv_aload_n hx hb d_PC_place_57 rfl (lv_at hl 0 rfl) ?_
          refine va_get (D := (dC, dI)) (ci := 0) (v := .ref gi) (C := R_PC) (T := F_PC) (N := 8) hx hb hts (fun w h => mw (i_PC w h)) hown hK hP 0 rfl rfl 3 (by decide) (hts _ (mw wd_84)) (fun _ h9 => h9) rfl d_PC_place_58 ?_
          refine lv_iload_n hx hb d_PC_place_61 rfl (lv_at hl 1 rfl) ?_
          refine lv_iconst (v := 2) hx hb d_PC_place_62 (by decide) ?_
          refine lv_iload hx hb d_PC_place_63 (lv_at hl 4 rfl) ?_
          refine lv_i2l hx hb d_PC_place_65 rfl ?_
          have hPc := hP.sub (ws' := [(gi, .inr (1, [.ref gia, .int gin])), (gia, .inl (cJ, 114, .inr (.inl (f_Ri_put_1 gin (f_Ri_put_1 gin gif ix 0 xx.toInt64) ix 1 yy.toInt64))))]) [1, 2] rfl
          have hDc := hD.sub (ws' := [(gi, .inr (1, [.ref gia, .int gin])), (gia, .inl (cJ, 114, .inr (.inl (f_Ri_put_1 gin (f_Ri_put_1 gin gif ix 0 xx.toInt64) ix 1 yy.toInt64))))]) [1, 2] (by decide) rfl
          have hFc := va_free (wc := [(gi, .inr (1, [.ref gia, .int gin])), (gia, .inl (cJ, 114, .inr (.inl (f_Ri_put_1 gin (f_Ri_put_1 gin gif ix 0 xx.toInt64) ix 1 yy.toInt64))))]) hD hS hA [1, 2] rfl
          refine va_callv (va_runVN (As := [.int ix, .int 2, .long zz.toInt64]) (rest := []) ⟨hx, hb, hml, hown, hts⟩ (c_Ri_put l dC dI cJ cI H.size gi gia gin (f_Ri_put_1 gin (f_Ri_put_1 gin gif ix 0 xx.toInt64) ix 1 yy.toInt64) ix 2 zz.toInt64) (⟨va_cnB 3 hts (gd_0 wd_113) rfl rfl rfl (hN _ nw_7) (hts _ (mw wd_35)) (by decide +kernel) ⟨Nat.le_of_ble_eq_true rfl, Nat.le_of_ble_eq_true rfl⟩, (hts _ (mw wd_112)), (hts _ (mw wd_2))⟩) ⟨fb_rw, va_recv hK hPc (ci := 1) (q0 := 0) rfl rfl, pre_rw hK hN hPc hDc⟩ rfl rfl hl.1 rfl (lv_room (Nat.le_of_ble_eq_true rfl)) d_PC_place_66 ⟨Nat.le_of_ble_eq_true rfl, Nat.le_of_ble_eq_true rfl⟩) hS (fun q _ h => hFc q h) hFc (fun u t H locs ht hvm hw hB hz1 hk1 hS => ?_)
          obtain ⟨hP1, hD1⟩ := hB
          rw [ht] at hP1
          obtain ⟨hP, hD⟩ := va_join (wr := [(ob, .inr (0, [.int wi, .int hi, .int fo, .ref gi, .ref ke, .ref sp, .ref pi, .ref fa])), (ke, .inr (1, [.ref kea, .int ken])), (kea, .inl (cJ, 114, .inr (.inl kef))), (sp, .inr (1, [.ref spa, .int spn])), (spa, .inl (cJ, 114, .inr (.inl spf))), (pi, .inr (1, [.ref pia, .int pin])), (pia, .inl (cJ, 114, .inr (.inl pif))), (fa, .inr (2, [.ref fas, .ref fat, .ref faa, .int fan])), (fas, .inl (cI, 17, .inl faS)), (fat, .inl (cI, 17, .inl faT)), (faa, .inl (cI, 17, .inl faA))]) (w1 := [(gi, .inr (1, [.ref gia, .int gin])), (gia, .inl (cJ, 114, .inr (.inl (f_Ri_put_1 gin (f_Ri_put_1 gin (f_Ri_put_1 gin gif ix 0 xx.toInt64) ix 1 yy.toInt64) ix 2 zz.toInt64))))]) hP hD [1, 2] [0, 3, 4, 5, 6, 7, 8, 9, 10, 11, 12] rfl rfl (by decide) (by decide) hk1 hFc hP1 hD1
          have hP : va_P (dC, dI) cls4 [(ob, .inr (0, [.int wi, .int hi, .int fo, .ref gi, .ref ke, .ref sp, .ref pi, .ref fa])), (gi, .inr (1, [.ref gia, .int gin])), (gia, .inl (cJ, 114, .inr (.inl (f_Ri_put_1 gin (f_Ri_put_1 gin (f_Ri_put_1 gin gif ix 0 xx.toInt64) ix 1 yy.toInt64) ix 2 zz.toInt64)))), (ke, .inr (1, [.ref kea, .int ken])), (kea, .inl (cJ, 114, .inr (.inl kef))), (sp, .inr (1, [.ref spa, .int spn])), (spa, .inl (cJ, 114, .inr (.inl spf))), (pi, .inr (1, [.ref pia, .int pin])), (pia, .inl (cJ, 114, .inr (.inl pif))), (fa, .inr (2, [.ref fas, .ref fat, .ref faa, .int fan])), (fas, .inl (cI, 17, .inl faS)), (fat, .inl (cI, 17, .inl faT)), (faa, .inl (cI, 17, .inl faA))] H := hP.sub [0, 11, 12, 1, 2, 3, 4, 5, 6, 7, 8, 9, 10] rfl
          have hD : va_D A [(ob, .inr (0, [.int wi, .int hi, .int fo, .ref gi, .ref ke, .ref sp, .ref pi, .ref fa])), (gi, .inr (1, [.ref gia, .int gin])), (gia, .inl (cJ, 114, .inr (.inl (f_Ri_put_1 gin (f_Ri_put_1 gin (f_Ri_put_1 gin gif ix 0 xx.toInt64) ix 1 yy.toInt64) ix 2 zz.toInt64)))), (ke, .inr (1, [.ref kea, .int ken])), (kea, .inl (cJ, 114, .inr (.inl kef))), (sp, .inr (1, [.ref spa, .int spn])), (spa, .inl (cJ, 114, .inr (.inl spf))), (pi, .inr (1, [.ref pia, .int pin])), (pia, .inl (cJ, 114, .inr (.inl pif))), (fa, .inr (2, [.ref fas, .ref fat, .ref faa, .int fan])), (fas, .inl (cI, 17, .inl faS)), (fat, .inl (cI, 17, .inl faT)), (faa, .inl (cI, 17, .inl faA))] := hD.sub [0, 11, 12, 1, 2, 3, 4, 5, 6, 7, 8, 9, 10] (by decide) rfl
          refine lv_iconst (v := 1) hx hb d_PC_place_69 (by decide) ?_
          subst er_1
          subst er_5
          subst er_9
          subst er_13
          have ew_15 : f_PC_place_r gin ix xx yy zz = 1 := by rw [f_PC_place_r, if_neg c_2, if_neg c_6, if_neg c_10, if_neg c_14]
          have ew_16 : f_PC_place_2 gin gif ix xx yy zz = f_Ri_put_1 gin (f_Ri_put_1 gin (f_Ri_put_1 gin gif ix 0 xx.toInt64) ix 1 yy.toInt64) ix 2 zz.toInt64 := by rw [f_PC_place_2, if_neg c_2, if_neg c_6, if_neg c_10, if_neg c_14]
          exact W.zret (v := 1) hx hb hr (by decide) (fun t ht hW => ⟨⟨_, (), rfl, by rw [f_PC_place_r, if_neg c_2, if_neg c_6, if_neg c_10, if_neg c_14], by rw [ht, ew_16]; exact hP, by rw [ew_16]; exact hD⟩, hS.F ht⟩) hS.2.2 d_PC_place_70
        · have c_14 : r_13 = 0 := c_14
          refine lv_iconst (v := 0) hx hb d_PC_place_33 (by decide) ?_
          subst er_1
          subst er_5
          subst er_9
          subst er_13
          have ew_17 : f_PC_place_r gin ix xx yy zz = 0 := by rw [f_PC_place_r, if_neg c_2, if_neg c_6, if_neg c_10, if_pos c_14]
          have ew_18 : f_PC_place_2 gin gif ix xx yy zz = gif := by rw [f_PC_place_2, if_neg c_2, if_neg c_6, if_neg c_10, if_pos c_14]
          exact W.zret (v := 0) hx hb hr (by decide) (fun t ht hW => ⟨⟨_, (), rfl, by rw [f_PC_place_r, if_neg c_2, if_neg c_6, if_neg c_10, if_pos c_14], by rw [ht, ew_18]; exact hP, by rw [ew_18]; exact hD⟩, hS.F ht⟩) hS.2.2 d_PC_place_34
def f_PC_paint_r (gin : Int32) (ix : Int32) (uu : Int32) (vv : Int32) (ll : Int32) : Int32 := if (f_Ri_has gin ix) = 0 then 0 else (if (f_PC_isPaint uu) = 0 then 0 else (if (f_PC_isPaint vv) = 0 then 0 else (if ll < 0 then 0 else (if ll ≤ 65536 then 1 else 0))))
def f_PC_paint_2 (gin : Int32) (gif : Nat → Int64) (ix : Int32) (uu : Int32) (vv : Int32) (ll : Int32) : Nat → Int64 := if (f_Ri_has gin ix) = 0 then gif else (if (f_PC_isPaint uu) = 0 then gif else (if (f_PC_isPaint vv) = 0 then gif else (if ll < 0 then gif else (if ll ≤ 65536 then (f_Ri_put_1 gin (f_Ri_put_1 gin (f_Ri_put_1 gin gif ix 3 uu.toInt64) ix 4 vv.toInt64) ix 5 ll.toInt64) else gif))))
set_option maxHeartbeats 4000000 in
set_option maxRecDepth 100000 in
theorem c_PC_paint (l : Launch) (dC : Nat → ClassId) (dI : Nat → Nat → Nat) (cJ cI : ClassId) (sz : Nat) (ob : Nat) (wi : Int32) (hi : Int32) (fo : Int32) (gi : Nat) (gia : Nat) (gin : Int32) (gif : Nat → Int64) (ke : Nat) (kea : Nat) (ken : Int32) (kef : Nat → Int64) (sp : Nat) (spa : Nat) (spn : Int32) (spf : Nat → Int64) (pi : Nat) (pia : Nat) (pin : Int32) (pif : Nat → Int64) (fa : Nat) (fas : Nat) (fat : Nat) (faa : Nat) (fan : Int32) (faS : Nat → Int32) (faT : Nat → Int32) (faA : Nat → Int32) (ix : Int32) (uu : Int32) (vv : Int32) (ll : Int32) : Met l y_PC_paint w_PC_paint ({ frames := 2, cells := 0, slots := 0, locals := 45 } : Room) (rq_rw (dC, dI) cJ cI sz [.ref ob, .int ix, .int uu, .int vv, .int ll] [(ob, .inr (0, [.int wi, .int hi, .int fo, .ref gi, .ref ke, .ref sp, .ref pi, .ref fa])), (gi, .inr (1, [.ref gia, .int gin])), (gia, .inl (cJ, 114, .inr (.inl gif))), (ke, .inr (1, [.ref kea, .int ken])), (kea, .inl (cJ, 114, .inr (.inl kef))), (sp, .inr (1, [.ref spa, .int spn])), (spa, .inl (cJ, 114, .inr (.inl spf))), (pi, .inr (1, [.ref pia, .int pin])), (pia, .inl (cJ, 114, .inr (.inl pif))), (fa, .inr (2, [.ref fas, .ref fat, .ref faa, .int fan])), (fas, .inl (cI, 17, .inl faS)), (fat, .inl (cI, 17, .inl faT)), (faa, .inl (cI, 17, .inl faA))]) (va_Qi (fun (r : Int32) (_ : Unit) => r = f_PC_paint_r gin ix uu vv ll) (rz (dC, dI) (va_A [(ob, .inr (0, [.int wi, .int hi, .int fo, .ref gi, .ref ke, .ref sp, .ref pi, .ref fa])), (gi, .inr (1, [.ref gia, .int gin])), (gia, .inl (cJ, 114, .inr (.inl gif))), (ke, .inr (1, [.ref kea, .int ken])), (kea, .inl (cJ, 114, .inr (.inl kef))), (sp, .inr (1, [.ref spa, .int spn])), (spa, .inl (cJ, 114, .inr (.inl spf))), (pi, .inr (1, [.ref pia, .int pin])), (pia, .inl (cJ, 114, .inr (.inl pif))), (fa, .inr (2, [.ref fas, .ref fat, .ref faa, .int fan])), (fas, .inl (cI, 17, .inl faS)), (fat, .inl (cI, 17, .inl faT)), (faa, .inl (cI, 17, .inl faA))] sz) [(ob, .inr (0, [.int wi, .int hi, .int fo, .ref gi, .ref ke, .ref sp, .ref pi, .ref fa])), (gi, .inr (1, [.ref gia, .int gin])), (gia, .inl (cJ, 114, .inr (.inl (f_PC_paint_2 gin gif ix uu vv ll)))), (ke, .inr (1, [.ref kea, .int ken])), (kea, .inl (cJ, 114, .inr (.inl kef))), (sp, .inr (1, [.ref spa, .int spn])), (spa, .inl (cJ, 114, .inr (.inl spf))), (pi, .inr (1, [.ref pia, .int pin])), (pia, .inl (cJ, 114, .inr (.inl pif))), (fa, .inr (2, [.ref fas, .ref fat, .ref faa, .int fan])), (fas, .inl (cI, 17, .inl faS)), (fat, .inl (cI, 17, .inl faT)), (faa, .inl (cI, 17, .inl faA))]) (va_A [(ob, .inr (0, [.int wi, .int hi, .int fo, .ref gi, .ref ke, .ref sp, .ref pi, .ref fa])), (gi, .inr (1, [.ref gia, .int gin])), (gia, .inl (cJ, 114, .inr (.inl gif))), (ke, .inr (1, [.ref kea, .int ken])), (kea, .inl (cJ, 114, .inr (.inl kef))), (sp, .inr (1, [.ref spa, .int spn])), (spa, .inl (cJ, 114, .inr (.inl spf))), (pi, .inr (1, [.ref pia, .int pin])), (pia, .inl (cJ, 114, .inr (.inl pif))), (fa, .inr (2, [.ref fas, .ref fat, .ref faa, .int fan])), (fas, .inl (cI, 17, .inl faS)), (fat, .inl (cI, 17, .inl faT)), (faa, .inl (cI, 17, .inl faA))] sz)) 0 0 (va_A [(ob, .inr (0, [.int wi, .int hi, .int fo, .ref gi, .ref ke, .ref sp, .ref pi, .ref fa])), (gi, .inr (1, [.ref gia, .int gin])), (gia, .inl (cJ, 114, .inr (.inl gif))), (ke, .inr (1, [.ref kea, .int ken])), (kea, .inl (cJ, 114, .inr (.inl kef))), (sp, .inr (1, [.ref spa, .int spn])), (spa, .inl (cJ, 114, .inr (.inl spf))), (pi, .inr (1, [.ref pia, .int pin])), (pia, .inl (cJ, 114, .inr (.inl pif))), (fa, .inr (2, [.ref fas, .ref fat, .ref faa, .int fan])), (fas, .inl (cI, 17, .inl faS)), (fat, .inl (cI, 17, .inl faT)), (faa, .inl (cI, 17, .inl faA))] sz) := by
  refine Met.ofW (cc := b_PC_paint) (maxL := 5) (ret := (some .boolean)) (by decide) rfl ?_
  intro p e s m args below meth c s₁ B hml hv
  obtain ⟨rfl, hsz, hP, hK, hN, hD0⟩ := hv
  have hx := B.exec
  have hb := B.bytes
  have hr := B.returns
  have hts := atoms_spec (ws := w_PC_paint) B.pre
  have hown : s.vm.findClass R_PC = some m.cls := findClass_of_methodNamed B.named
  have hlocks := B.notSynchronized
  subst hsz
  have hD := hD0.self (sz := s.heap.size)
  generalize hAe : va_A [(ob, .inr (0, [.int wi, .int hi, .int fo, .ref gi, .ref ke, .ref sp, .ref pi, .ref fa])), (gi, .inr (1, [.ref gia, .int gin])), (gia, .inl (cJ, 114, .inr (.inl gif))), (ke, .inr (1, [.ref kea, .int ken])), (kea, .inl (cJ, 114, .inr (.inl kef))), (sp, .inr (1, [.ref spa, .int spn])), (spa, .inl (cJ, 114, .inr (.inl spf))), (pi, .inr (1, [.ref pia, .int pin])), (pia, .inl (cJ, 114, .inr (.inl pif))), (fa, .inr (2, [.ref fas, .ref fat, .ref faa, .int fan])), (fas, .inl (cI, 17, .inl faS)), (fat, .inl (cI, 17, .inl faT)), (faa, .inl (cI, 17, .inl faA))] s.heap.size = A at hD ⊢
  have hA : ∀ q : Nat, s.heap.size ≤ q → A q := fun q h => by rw [← hAe]; exact Or.inr h
  have hS : va_S A s.heap s.heap [] := va_S.rf
  have hl := lv_entry ([.ref ob, .int ix, .int uu, .int vv, .int ll]) (n := 5) (Nat.le_of_ble_eq_true rfl)
  rw [lg_entry_eq]
  generalize (lg_sl ([.ref ob, .int ix, .int uu, .int vv, .int ll]) ++ List.replicate (5 - (lg_sl ([.ref ob, .int ix, .int uu, .int vv, .int ll])).length) Slot.unset).toArray = ls at hl ⊢
  have hl : lv_has ls 5 [(0, .ref ob), (1, .int ix), (2, .int uu), (3, .int vv), (4, .int ll)] := hl
  have hP : va_P (dC, dI) cls4 [(ob, .inr (0, [.int wi, .int hi, .int fo, .ref gi, .ref ke, .ref sp, .ref pi, .ref fa])), (gi, .inr (1, [.ref gia, .int gin])), (gia, .inl (cJ, 114, .inr (.inl gif))), (ke, .inr (1, [.ref kea, .int ken])), (kea, .inl (cJ, 114, .inr (.inl kef))), (sp, .inr (1, [.ref spa, .int spn])), (spa, .inl (cJ, 114, .inr (.inl spf))), (pi, .inr (1, [.ref pia, .int pin])), (pia, .inl (cJ, 114, .inr (.inl pif))), (fa, .inr (2, [.ref fas, .ref fat, .ref faa, .int fan])), (fas, .inl (cI, 17, .inl faS)), (fat, .inl (cI, 17, .inl faT)), (faa, .inl (cI, 17, .inl faA))] s.heap := hP
  refine lv_aload_n hx hb d_PC_paint_0 rfl (lv_at hl 0 rfl) ?_
  refine va_get (D := (dC, dI)) (ci := 0) (v := .ref gi) (C := R_PC) (T := F_PC) (N := 8) hx hb hts (fun w h => mw (i_PC w h)) hown hK hP 0 rfl rfl 3 (by decide) (hts _ (mw wd_84)) (fun _ h9 => h9) rfl d_PC_paint_1 ?_
  refine lv_iload_n hx hb d_PC_paint_4 rfl (lv_at hl 1 rfl) ?_
  have hPc := hP.sub (ws' := [(gi, .inr (1, [.ref gia, .int gin])), (gia, .inl (cJ, 114, .inr (.inl gif)))]) [1, 2] rfl
  refine vp_callSi (va_Run.run (va_runVN (As := [.int ix]) (rest := []) ⟨hx, hb, hml, hown, hts⟩ (c_Ri_has l dC dI cJ cI gi gia gin gif ix) (⟨va_cnB 1 hts (gd_0 wd_106) rfl rfl rfl (hN _ nw_6) (hts _ (mw wd_35)) (by decide +kernel) ⟨Nat.le_of_ble_eq_true rfl, Nat.le_of_ble_eq_true rfl⟩, (hts _ (mw wd_105)), (hts _ (mw wd_1))⟩) ⟨fb_ro, va_recv hK hPc (ci := 1) (q0 := 0) rfl rfl, pre_ro hK hN hPc⟩ rfl rfl hl.1 rfl (lv_room (Nat.le_of_ble_eq_true rfl)) d_PC_paint_5 ⟨Nat.le_of_ble_eq_true rfl, Nat.le_of_ble_eq_true rfl⟩)) (fun r_1 er_1 => ?_)
  have er_1 : r_1 = f_Ri_has gin ix := er_1
  refine lv_if_eq (tgt := 37) hx hb d_PC_paint_8 (by decide) (fun c_2 => ?_) (fun c_2 => ?_)
  · have c_2 : r_1 = 0 := c_2
    refine lv_iconst (v := 0) hx hb d_PC_paint_37 (by decide) ?_
    subst er_1
    have ew_3 : f_PC_paint_r gin ix uu vv ll = 0 := by rw [f_PC_paint_r, if_pos c_2]
    have ew_4 : f_PC_paint_2 gin gif ix uu vv ll = gif := by rw [f_PC_paint_2, if_pos c_2]
    exact W.zret (v := 0) hx hb hr (by decide) (fun t ht hW => ⟨⟨_, (), rfl, by rw [f_PC_paint_r, if_pos c_2], by rw [ht, ew_4]; exact hP, by rw [ew_4]; exact hD⟩, hS.F ht⟩) hS.2.2 d_PC_paint_38
  · have c_2 : ¬ (r_1 = 0) := c_2
    refine lv_iload_n hx hb d_PC_paint_11 rfl (lv_at hl 2 rfl) ?_
    refine vp_callSi (va_Run.run (va_runS (As := [.int uu]) (rest := []) ⟨hx, hb, hml, hown, hts⟩ (c_PC_isPaint l dC dI cJ cI uu) (va_cwS 1 hts (gd_S wd_119 wd_120 wd_33 wd_121) rfl rfl rfl (by decide +kernel) ⟨Nat.le_of_ble_eq_true rfl, Nat.le_of_ble_eq_true rfl⟩) ⟨fb_ro, pre_ro hK hN va_nil⟩ rfl rfl hl.1 rfl (lv_room (Nat.le_of_ble_eq_true rfl)) d_PC_paint_12 ⟨Nat.le_of_ble_eq_true rfl, Nat.le_of_ble_eq_true rfl⟩)) (fun r_5 er_5 => ?_)
    have er_5 : r_5 = f_PC_isPaint uu := er_5
    refine lv_if_eq (tgt := 37) hx hb d_PC_paint_15 (by decide) (fun c_6 => ?_) (fun c_6 => ?_)
    · have c_6 : r_5 = 0 := c_6
      refine lv_iconst (v := 0) hx hb d_PC_paint_37 (by decide) ?_
      subst er_1
      subst er_5
      have ew_7 : f_PC_paint_r gin ix uu vv ll = 0 := by rw [f_PC_paint_r, if_neg c_2, if_pos c_6]
      have ew_8 : f_PC_paint_2 gin gif ix uu vv ll = gif := by rw [f_PC_paint_2, if_neg c_2, if_pos c_6]
      exact W.zret (v := 0) hx hb hr (by decide) (fun t ht hW => ⟨⟨_, (), rfl, by rw [f_PC_paint_r, if_neg c_2, if_pos c_6], by rw [ht, ew_8]; exact hP, by rw [ew_8]; exact hD⟩, hS.F ht⟩) hS.2.2 d_PC_paint_38
    · have c_6 : ¬ (r_5 = 0) := c_6
      refine lv_iload_n hx hb d_PC_paint_18 rfl (lv_at hl 3 rfl) ?_
      refine vp_callSi (va_Run.run (va_runS (As := [.int vv]) (rest := []) ⟨hx, hb, hml, hown, hts⟩ (c_PC_isPaint l dC dI cJ cI vv) (va_cwS 1 hts (gd_S wd_119 wd_120 wd_33 wd_121) rfl rfl rfl (by decide +kernel) ⟨Nat.le_of_ble_eq_true rfl, Nat.le_of_ble_eq_true rfl⟩) ⟨fb_ro, pre_ro hK hN va_nil⟩ rfl rfl hl.1 rfl (lv_room (Nat.le_of_ble_eq_true rfl)) d_PC_paint_19 ⟨Nat.le_of_ble_eq_true rfl, Nat.le_of_ble_eq_true rfl⟩)) (fun r_9 er_9 => ?_)
      have er_9 : r_9 = f_PC_isPaint vv := er_9
      refine lv_if_eq (tgt := 37) hx hb d_PC_paint_22 (by decide) (fun c_10 => ?_) (fun c_10 => ?_)
      · have c_10 : r_9 = 0 := c_10
        refine lv_iconst (v := 0) hx hb d_PC_paint_37 (by decide) ?_
        subst er_1
        subst er_5
        subst er_9
        have ew_11 : f_PC_paint_r gin ix uu vv ll = 0 := by rw [f_PC_paint_r, if_neg c_2, if_neg c_6, if_pos c_10]
        have ew_12 : f_PC_paint_2 gin gif ix uu vv ll = gif := by rw [f_PC_paint_2, if_neg c_2, if_neg c_6, if_pos c_10]
        exact W.zret (v := 0) hx hb hr (by decide) (fun t ht hW => ⟨⟨_, (), rfl, by rw [f_PC_paint_r, if_neg c_2, if_neg c_6, if_pos c_10], by rw [ht, ew_12]; exact hP, by rw [ew_12]; exact hD⟩, hS.F ht⟩) hS.2.2 d_PC_paint_38
      · have c_10 : ¬ (r_9 = 0) := c_10
        refine lv_iload hx hb d_PC_paint_25 (lv_at hl 4 rfl) ?_
        refine lv_if_lt (tgt := 37) hx hb d_PC_paint_27 (by decide) (fun c_13 => ?_) (fun c_13 => ?_)
        · have c_13 : ll < 0 := c_13
          refine lv_iconst (v := 0) hx hb d_PC_paint_37 (by decide) ?_
          subst er_1
          subst er_5
          subst er_9
          have ew_14 : f_PC_paint_r gin ix uu vv ll = 0 := by rw [f_PC_paint_r, if_neg c_2, if_neg c_6, if_neg c_10, if_pos c_13]
          have ew_15 : f_PC_paint_2 gin gif ix uu vv ll = gif := by rw [f_PC_paint_2, if_neg c_2, if_neg c_6, if_neg c_10, if_pos c_13]
          exact W.zret (v := 0) hx hb hr (by decide) (fun t ht hW => ⟨⟨_, (), rfl, by rw [f_PC_paint_r, if_neg c_2, if_neg c_6, if_neg c_10, if_pos c_13], by rw [ht, ew_15]; exact hP, by rw [ew_15]; exact hD⟩, hS.F ht⟩) hS.2.2 d_PC_paint_38
        · have c_13 : ¬ (ll < 0) := c_13
          refine lv_iload hx hb d_PC_paint_30 (lv_at hl 4 rfl) ?_
          refine lv_ldc hx hb hown (hts _ (mw wd_124)) d_PC_paint_32 ?_
          refine lv_icmp_le (tgt := 39) hx hb d_PC_paint_34 (by decide) (fun c_16 => ?_) (fun c_16 => ?_)
          · have c_16 : ll ≤ 65536 := c_16
            refine lv_aload_n hx hb d_PC_paint_39 rfl (lv_at hl 0 rfl) ?_
            refine va_get (D := (dC, dI)) (ci := 0) (v := .ref gi) (C := R_PC) (T := F_PC) (N := 8) hx hb hts (fun w h => mw (i_PC w h)) hown hK hP 0 rfl rfl 3 (by decide) (hts _ (mw wd_84)) (fun _ h9 => h9) rfl d_PC_paint_40 ?_
            refine lv_iload_n hx hb d_PC_paint_43 rfl (lv_at hl 1 rfl) ?_
            refine lv_iconst (v := 3) hx hb d_PC_paint_44 (by decide) ?_
            refine lv_iload_n hx hb d_PC_paint_45 rfl (lv_at hl 2 rfl) ?_
            refine lv_i2l hx hb d_PC_paint_46 rfl ?_
            have hPc := hP.sub (ws' := [(gi, .inr (1, [.ref gia, .int gin])), (gia, .inl (cJ, 114, .inr (.inl gif)))]) [1, 2] rfl
            have hDc := hD.sub (ws' := [(gi, .inr (1, [.ref gia, .int gin])), (gia, .inl (cJ, 114, .inr (.inl gif)))]) [1, 2] (by decide) rfl
            have hFc := va_free (wc := [(gi, .inr (1, [.ref gia, .int gin])), (gia, .inl (cJ, 114, .inr (.inl gif)))]) hD hS hA [1, 2] rfl
            refine va_callv (va_runVN (As := [.int ix, .int 3, .long uu.toInt64]) (rest := []) ⟨hx, hb, hml, hown, hts⟩ (c_Ri_put l dC dI cJ cI s.heap.size gi gia gin gif ix 3 uu.toInt64) (⟨va_cnB 3 hts (gd_0 wd_113) rfl rfl rfl (hN _ nw_7) (hts _ (mw wd_35)) (by decide +kernel) ⟨Nat.le_of_ble_eq_true rfl, Nat.le_of_ble_eq_true rfl⟩, (hts _ (mw wd_112)), (hts _ (mw wd_2))⟩) ⟨fb_rw, va_recv hK hPc (ci := 1) (q0 := 0) rfl rfl, pre_rw hK hN hPc hDc⟩ rfl rfl hl.1 rfl (lv_room (Nat.le_of_ble_eq_true rfl)) d_PC_paint_47 ⟨Nat.le_of_ble_eq_true rfl, Nat.le_of_ble_eq_true rfl⟩) hS (fun q _ h => hFc q h) hFc (fun u t H locs ht hvm hw hB hz1 hk1 hS => ?_)
            obtain ⟨hP1, hD1⟩ := hB
            rw [ht] at hP1
            obtain ⟨hP, hD⟩ := va_join (wr := [(ob, .inr (0, [.int wi, .int hi, .int fo, .ref gi, .ref ke, .ref sp, .ref pi, .ref fa])), (ke, .inr (1, [.ref kea, .int ken])), (kea, .inl (cJ, 114, .inr (.inl kef))), (sp, .inr (1, [.ref spa, .int spn])), (spa, .inl (cJ, 114, .inr (.inl spf))), (pi, .inr (1, [.ref pia, .int pin])), (pia, .inl (cJ, 114, .inr (.inl pif))), (fa, .inr (2, [.ref fas, .ref fat, .ref faa, .int fan])), (fas, .inl (cI, 17, .inl faS)), (fat, .inl (cI, 17, .inl faT)), (faa, .inl (cI, 17, .inl faA))]) (w1 := [(gi, .inr (1, [.ref gia, .int gin])), (gia, .inl (cJ, 114, .inr (.inl (f_Ri_put_1 gin gif ix 3 uu.toInt64))))]) hP hD [1, 2] [0, 3, 4, 5, 6, 7, 8, 9, 10, 11, 12] rfl rfl (by decide) (by decide) hk1 hFc hP1 hD1
            have hP : va_P (dC, dI) cls4 [(ob, .inr (0, [.int wi, .int hi, .int fo, .ref gi, .ref ke, .ref sp, .ref pi, .ref fa])), (gi, .inr (1, [.ref gia, .int gin])), (gia, .inl (cJ, 114, .inr (.inl (f_Ri_put_1 gin gif ix 3 uu.toInt64)))), (ke, .inr (1, [.ref kea, .int ken])), (kea, .inl (cJ, 114, .inr (.inl kef))), (sp, .inr (1, [.ref spa, .int spn])), (spa, .inl (cJ, 114, .inr (.inl spf))), (pi, .inr (1, [.ref pia, .int pin])), (pia, .inl (cJ, 114, .inr (.inl pif))), (fa, .inr (2, [.ref fas, .ref fat, .ref faa, .int fan])), (fas, .inl (cI, 17, .inl faS)), (fat, .inl (cI, 17, .inl faT)), (faa, .inl (cI, 17, .inl faA))] H := hP.sub [0, 11, 12, 1, 2, 3, 4, 5, 6, 7, 8, 9, 10] rfl
            have hD : va_D A [(ob, .inr (0, [.int wi, .int hi, .int fo, .ref gi, .ref ke, .ref sp, .ref pi, .ref fa])), (gi, .inr (1, [.ref gia, .int gin])), (gia, .inl (cJ, 114, .inr (.inl (f_Ri_put_1 gin gif ix 3 uu.toInt64)))), (ke, .inr (1, [.ref kea, .int ken])), (kea, .inl (cJ, 114, .inr (.inl kef))), (sp, .inr (1, [.ref spa, .int spn])), (spa, .inl (cJ, 114, .inr (.inl spf))), (pi, .inr (1, [.ref pia, .int pin])), (pia, .inl (cJ, 114, .inr (.inl pif))), (fa, .inr (2, [.ref fas, .ref fat, .ref faa, .int fan])), (fas, .inl (cI, 17, .inl faS)), (fat, .inl (cI, 17, .inl faT)), (faa, .inl (cI, 17, .inl faA))] := hD.sub [0, 11, 12, 1, 2, 3, 4, 5, 6, 7, 8, 9, 10] (by decide) rfl
            refine lv_aload_n hx hb d_PC_paint_50 rfl (lv_at hl 0 rfl) ?_
            refine va_get (D := (dC, dI)) (ci := 0) (v := .ref gi) (C := R_PC) (T := F_PC) (N := 8) hx hb hts (fun w h => mw (i_PC w h)) hown hK hP 0 rfl rfl 3 (by decide) (hts _ (mw wd_84)) (fun _ h9 => h9) rfl d_PC_paint_51 ?_
            refine lv_iload_n hx hb d_PC_paint_54 rfl (lv_at hl 1 rfl) ?_
            refine lv_iconst (v := 4) hx hb d_PC_paint_55 (by decide) ?_
            refine lv_iload_n hx hb d_PC_paint_56 rfl (lv_at hl 3 rfl) ?_
            refine lv_i2l hx hb d_PC_paint_57 rfl ?_
            have hPc := hP.sub (ws' := [(gi, .inr (1, [.ref gia, .int gin])), (gia, .inl (cJ, 114, .inr (.inl (f_Ri_put_1 gin gif ix 3 uu.toInt64))))]) [1, 2] rfl
            have hDc := hD.sub (ws' := [(gi, .inr (1, [.ref gia, .int gin])), (gia, .inl (cJ, 114, .inr (.inl (f_Ri_put_1 gin gif ix 3 uu.toInt64))))]) [1, 2] (by decide) rfl
            have hFc := va_free (wc := [(gi, .inr (1, [.ref gia, .int gin])), (gia, .inl (cJ, 114, .inr (.inl (f_Ri_put_1 gin gif ix 3 uu.toInt64))))]) hD hS hA [1, 2] rfl
            refine va_callv (va_runVN (As := [.int ix, .int 4, .long vv.toInt64]) (rest := []) ⟨hx, hb, hml, hown, hts⟩ (c_Ri_put l dC dI cJ cI H.size gi gia gin (f_Ri_put_1 gin gif ix 3 uu.toInt64) ix 4 vv.toInt64) (⟨va_cnB 3 hts (gd_0 wd_113) rfl rfl rfl (hN _ nw_7) (hts _ (mw wd_35)) (by decide +kernel) ⟨Nat.le_of_ble_eq_true rfl, Nat.le_of_ble_eq_true rfl⟩, (hts _ (mw wd_112)), (hts _ (mw wd_2))⟩) ⟨fb_rw, va_recv hK hPc (ci := 1) (q0 := 0) rfl rfl, pre_rw hK hN hPc hDc⟩ rfl rfl hl.1 rfl (lv_room (Nat.le_of_ble_eq_true rfl)) d_PC_paint_58 ⟨Nat.le_of_ble_eq_true rfl, Nat.le_of_ble_eq_true rfl⟩) hS (fun q _ h => hFc q h) hFc (fun u t H locs ht hvm hw hB hz1 hk1 hS => ?_)
            obtain ⟨hP1, hD1⟩ := hB
            rw [ht] at hP1
            obtain ⟨hP, hD⟩ := va_join (wr := [(ob, .inr (0, [.int wi, .int hi, .int fo, .ref gi, .ref ke, .ref sp, .ref pi, .ref fa])), (ke, .inr (1, [.ref kea, .int ken])), (kea, .inl (cJ, 114, .inr (.inl kef))), (sp, .inr (1, [.ref spa, .int spn])), (spa, .inl (cJ, 114, .inr (.inl spf))), (pi, .inr (1, [.ref pia, .int pin])), (pia, .inl (cJ, 114, .inr (.inl pif))), (fa, .inr (2, [.ref fas, .ref fat, .ref faa, .int fan])), (fas, .inl (cI, 17, .inl faS)), (fat, .inl (cI, 17, .inl faT)), (faa, .inl (cI, 17, .inl faA))]) (w1 := [(gi, .inr (1, [.ref gia, .int gin])), (gia, .inl (cJ, 114, .inr (.inl (f_Ri_put_1 gin (f_Ri_put_1 gin gif ix 3 uu.toInt64) ix 4 vv.toInt64))))]) hP hD [1, 2] [0, 3, 4, 5, 6, 7, 8, 9, 10, 11, 12] rfl rfl (by decide) (by decide) hk1 hFc hP1 hD1
            have hP : va_P (dC, dI) cls4 [(ob, .inr (0, [.int wi, .int hi, .int fo, .ref gi, .ref ke, .ref sp, .ref pi, .ref fa])), (gi, .inr (1, [.ref gia, .int gin])), (gia, .inl (cJ, 114, .inr (.inl (f_Ri_put_1 gin (f_Ri_put_1 gin gif ix 3 uu.toInt64) ix 4 vv.toInt64)))), (ke, .inr (1, [.ref kea, .int ken])), (kea, .inl (cJ, 114, .inr (.inl kef))), (sp, .inr (1, [.ref spa, .int spn])), (spa, .inl (cJ, 114, .inr (.inl spf))), (pi, .inr (1, [.ref pia, .int pin])), (pia, .inl (cJ, 114, .inr (.inl pif))), (fa, .inr (2, [.ref fas, .ref fat, .ref faa, .int fan])), (fas, .inl (cI, 17, .inl faS)), (fat, .inl (cI, 17, .inl faT)), (faa, .inl (cI, 17, .inl faA))] H := hP.sub [0, 11, 12, 1, 2, 3, 4, 5, 6, 7, 8, 9, 10] rfl
            have hD : va_D A [(ob, .inr (0, [.int wi, .int hi, .int fo, .ref gi, .ref ke, .ref sp, .ref pi, .ref fa])), (gi, .inr (1, [.ref gia, .int gin])), (gia, .inl (cJ, 114, .inr (.inl (f_Ri_put_1 gin (f_Ri_put_1 gin gif ix 3 uu.toInt64) ix 4 vv.toInt64)))), (ke, .inr (1, [.ref kea, .int ken])), (kea, .inl (cJ, 114, .inr (.inl kef))), (sp, .inr (1, [.ref spa, .int spn])), (spa, .inl (cJ, 114, .inr (.inl spf))), (pi, .inr (1, [.ref pia, .int pin])), (pia, .inl (cJ, 114, .inr (.inl pif))), (fa, .inr (2, [.ref fas, .ref fat, .ref faa, .int fan])), (fas, .inl (cI, 17, .inl faS)), (fat, .inl (cI, 17, .inl faT)), (faa, .inl (cI, 17, .inl faA))] := hD.sub [0, 11, 12, 1, 2, 3, 4, 5, 6, 7, 8, 9, 10] (by decide) rfl
            refine lv_aload_n hx hb d_PC_paint_61 rfl (lv_at hl 0 rfl) ?_
            refine va_get (D := (dC, dI)) (ci := 0) (v := .ref gi) (C := R_PC) (T := F_PC) (N := 8) hx hb hts (fun w h => mw (i_PC w h)) hown hK hP 0 rfl rfl 3 (by decide) (hts _ (mw wd_84)) (fun _ h9 => h9) rfl d_PC_paint_62 ?_
            refine lv_iload_n hx hb d_PC_paint_65 rfl (lv_at hl 1 rfl) ?_
            refine lv_iconst (v := 5) hx hb d_PC_paint_66 (by decide) ?_
            refine lv_iload hx hb d_PC_paint_67 (lv_at hl 4 rfl) ?_
            refine lv_i2l hx hb d_PC_paint_69 rfl ?_
            have hPc := hP.sub (ws' := [(gi, .inr (1, [.ref gia, .int gin])), (gia, .inl (cJ, 114, .inr (.inl (f_Ri_put_1 gin (f_Ri_put_1 gin gif ix 3 uu.toInt64) ix 4 vv.toInt64))))]) [1, 2] rfl
            have hDc := hD.sub (ws' := [(gi, .inr (1, [.ref gia, .int gin])), (gia, .inl (cJ, 114, .inr (.inl (f_Ri_put_1 gin (f_Ri_put_1 gin gif ix 3 uu.toInt64) ix 4 vv.toInt64))))]) [1, 2] (by decide) rfl
            have hFc := va_free (wc := [(gi, .inr (1, [.ref gia, .int gin])), (gia, .inl (cJ, 114, .inr (.inl (f_Ri_put_1 gin (f_Ri_put_1 gin gif ix 3 uu.toInt64) ix 4 vv.toInt64))))]) hD hS hA [1, 2] rfl
            refine va_callv (va_runVN (As := [.int ix, .int 5, .long ll.toInt64]) (rest := []) ⟨hx, hb, hml, hown, hts⟩ (c_Ri_put l dC dI cJ cI H.size gi gia gin (f_Ri_put_1 gin (f_Ri_put_1 gin gif ix 3 uu.toInt64) ix 4 vv.toInt64) ix 5 ll.toInt64) (⟨va_cnB 3 hts (gd_0 wd_113) rfl rfl rfl (hN _ nw_7) (hts _ (mw wd_35)) (by decide +kernel) ⟨Nat.le_of_ble_eq_true rfl, Nat.le_of_ble_eq_true rfl⟩, (hts _ (mw wd_112)), (hts _ (mw wd_2))⟩) ⟨fb_rw, va_recv hK hPc (ci := 1) (q0 := 0) rfl rfl, pre_rw hK hN hPc hDc⟩ rfl rfl hl.1 rfl (lv_room (Nat.le_of_ble_eq_true rfl)) d_PC_paint_70 ⟨Nat.le_of_ble_eq_true rfl, Nat.le_of_ble_eq_true rfl⟩) hS (fun q _ h => hFc q h) hFc (fun u t H locs ht hvm hw hB hz1 hk1 hS => ?_)
            obtain ⟨hP1, hD1⟩ := hB
            rw [ht] at hP1
            obtain ⟨hP, hD⟩ := va_join (wr := [(ob, .inr (0, [.int wi, .int hi, .int fo, .ref gi, .ref ke, .ref sp, .ref pi, .ref fa])), (ke, .inr (1, [.ref kea, .int ken])), (kea, .inl (cJ, 114, .inr (.inl kef))), (sp, .inr (1, [.ref spa, .int spn])), (spa, .inl (cJ, 114, .inr (.inl spf))), (pi, .inr (1, [.ref pia, .int pin])), (pia, .inl (cJ, 114, .inr (.inl pif))), (fa, .inr (2, [.ref fas, .ref fat, .ref faa, .int fan])), (fas, .inl (cI, 17, .inl faS)), (fat, .inl (cI, 17, .inl faT)), (faa, .inl (cI, 17, .inl faA))]) (w1 := [(gi, .inr (1, [.ref gia, .int gin])), (gia, .inl (cJ, 114, .inr (.inl (f_Ri_put_1 gin (f_Ri_put_1 gin (f_Ri_put_1 gin gif ix 3 uu.toInt64) ix 4 vv.toInt64) ix 5 ll.toInt64))))]) hP hD [1, 2] [0, 3, 4, 5, 6, 7, 8, 9, 10, 11, 12] rfl rfl (by decide) (by decide) hk1 hFc hP1 hD1
            have hP : va_P (dC, dI) cls4 [(ob, .inr (0, [.int wi, .int hi, .int fo, .ref gi, .ref ke, .ref sp, .ref pi, .ref fa])), (gi, .inr (1, [.ref gia, .int gin])), (gia, .inl (cJ, 114, .inr (.inl (f_Ri_put_1 gin (f_Ri_put_1 gin (f_Ri_put_1 gin gif ix 3 uu.toInt64) ix 4 vv.toInt64) ix 5 ll.toInt64)))), (ke, .inr (1, [.ref kea, .int ken])), (kea, .inl (cJ, 114, .inr (.inl kef))), (sp, .inr (1, [.ref spa, .int spn])), (spa, .inl (cJ, 114, .inr (.inl spf))), (pi, .inr (1, [.ref pia, .int pin])), (pia, .inl (cJ, 114, .inr (.inl pif))), (fa, .inr (2, [.ref fas, .ref fat, .ref faa, .int fan])), (fas, .inl (cI, 17, .inl faS)), (fat, .inl (cI, 17, .inl faT)), (faa, .inl (cI, 17, .inl faA))] H := hP.sub [0, 11, 12, 1, 2, 3, 4, 5, 6, 7, 8, 9, 10] rfl
            have hD : va_D A [(ob, .inr (0, [.int wi, .int hi, .int fo, .ref gi, .ref ke, .ref sp, .ref pi, .ref fa])), (gi, .inr (1, [.ref gia, .int gin])), (gia, .inl (cJ, 114, .inr (.inl (f_Ri_put_1 gin (f_Ri_put_1 gin (f_Ri_put_1 gin gif ix 3 uu.toInt64) ix 4 vv.toInt64) ix 5 ll.toInt64)))), (ke, .inr (1, [.ref kea, .int ken])), (kea, .inl (cJ, 114, .inr (.inl kef))), (sp, .inr (1, [.ref spa, .int spn])), (spa, .inl (cJ, 114, .inr (.inl spf))), (pi, .inr (1, [.ref pia, .int pin])), (pia, .inl (cJ, 114, .inr (.inl pif))), (fa, .inr (2, [.ref fas, .ref fat, .ref faa, .int fan])), (fas, .inl (cI, 17, .inl faS)), (fat, .inl (cI, 17, .inl faT)), (faa, .inl (cI, 17, .inl faA))] := hD.sub [0, 11, 12, 1, 2, 3, 4, 5, 6, 7, 8, 9, 10] (by decide) rfl
            refine lv_iconst (v := 1) hx hb d_PC_paint_73 (by decide) ?_
            subst er_1
            subst er_5
            subst er_9
            have ew_17 : f_PC_paint_r gin ix uu vv ll = 1 := by rw [f_PC_paint_r, if_neg c_2, if_neg c_6, if_neg c_10, if_neg c_13, if_pos c_16]
            have ew_18 : f_PC_paint_2 gin gif ix uu vv ll = f_Ri_put_1 gin (f_Ri_put_1 gin (f_Ri_put_1 gin gif ix 3 uu.toInt64) ix 4 vv.toInt64) ix 5 ll.toInt64 := by rw [f_PC_paint_2, if_neg c_2, if_neg c_6, if_neg c_10, if_neg c_13, if_pos c_16]
            exact W.zret (v := 1) hx hb hr (by decide) (fun t ht hW => ⟨⟨_, (), rfl, by rw [f_PC_paint_r, if_neg c_2, if_neg c_6, if_neg c_10, if_neg c_13, if_pos c_16], by rw [ht, ew_18]; exact hP, by rw [ew_18]; exact hD⟩, hS.F ht⟩) hS.2.2 d_PC_paint_74
          · have c_16 : ¬ (ll ≤ 65536) := c_16
            refine lv_iconst (v := 0) hx hb d_PC_paint_37 (by decide) ?_
            subst er_1
            subst er_5
            subst er_9
            have ew_19 : f_PC_paint_r gin ix uu vv ll = 0 := by rw [f_PC_paint_r, if_neg c_2, if_neg c_6, if_neg c_10, if_neg c_13, if_neg c_16]
            have ew_20 : f_PC_paint_2 gin gif ix uu vv ll = gif := by rw [f_PC_paint_2, if_neg c_2, if_neg c_6, if_neg c_10, if_neg c_13, if_neg c_16]
            exact W.zret (v := 0) hx hb hr (by decide) (fun t ht hW => ⟨⟨_, (), rfl, by rw [f_PC_paint_r, if_neg c_2, if_neg c_6, if_neg c_10, if_neg c_13, if_neg c_16], by rw [ht, ew_20]; exact hP, by rw [ew_20]; exact hD⟩, hS.F ht⟩) hS.2.2 d_PC_paint_38
def f_PC_addBetween_6 (wi : Int32) (hi : Int32) (fo : Int32) (ken : Int32) (kef : Nat → Int64) (spn : Int32) (spf : Nat → Int64) (st : Int32) (le : Int32) (sd : Int32) : Nat → Int64 := f_Ri_put_1 (f_Ri_addRow_0_1 spn) (f_Ri_put_1 (f_Ri_addRow_0_1 spn) (f_Ri_put_1 (f_Ri_addRow_0_1 spn) (f_Ri_put_1 (f_Ri_addRow_0_1 spn) (f_Ri_put_1 (f_Ri_addRow_0_1 spn) (f_Ri_put_1 (f_Ri_addRow_0_1 spn) spf (f_Ri_addRow_r spn) 0 ((f_Ri_at ken kef st 0) + (f_PC_div (((f_Ri_at ken kef le 0) - (f_Ri_at ken kef st 0)) * (f_PC_sideNumber wi hi fo ken kef st sd)) ((f_PC_sideNumber wi hi fo ken kef st sd) - (f_PC_sideNumber wi hi fo ken kef le sd))))) (f_Ri_addRow_r spn) 1 ((f_Ri_at ken kef st 1) + (f_PC_div (((f_Ri_at ken kef le 1) - (f_Ri_at ken kef st 1)) * (f_PC_sideNumber wi hi fo ken kef st sd)) ((f_PC_sideNumber wi hi fo ken kef st sd) - (f_PC_sideNumber wi hi fo ken kef le sd))))) (f_Ri_addRow_r spn) 2 ((f_Ri_at ken kef st 2) + (f_PC_div (((f_Ri_at ken kef le 2) - (f_Ri_at ken kef st 2)) * (f_PC_sideNumber wi hi fo ken kef st sd)) ((f_PC_sideNumber wi hi fo ken kef st sd) - (f_PC_sideNumber wi hi fo ken kef le sd))))) (f_Ri_addRow_r spn) 3 ((f_Ri_at ken kef st 3) + (f_PC_div (((f_Ri_at ken kef le 3) - (f_Ri_at ken kef st 3)) * (f_PC_sideNumber wi hi fo ken kef st sd)) ((f_PC_sideNumber wi hi fo ken kef st sd) - (f_PC_sideNumber wi hi fo ken kef le sd))))) (f_Ri_addRow_r spn) 4 ((f_Ri_at ken kef st 4) + (f_PC_div (((f_Ri_at ken kef le 4) - (f_Ri_at ken kef st 4)) * (f_PC_sideNumber wi hi fo ken kef st sd)) ((f_PC_sideNumber wi hi fo ken kef st sd) - (f_PC_sideNumber wi hi fo ken kef le sd))))) (f_Ri_addRow_r spn) 5 ((f_Ri_at ken kef st 5) + (f_PC_div (((f_Ri_at ken kef le 5) - (f_Ri_at ken kef st 5)) * (f_PC_sideNumber wi hi fo ken kef st sd)) ((f_PC_sideNumber wi hi fo ken kef st sd) - (f_PC_sideNumber wi hi fo ken kef le sd))))
set_option maxHeartbeats 4000000 in
set_option maxRecDepth 100000 in
theorem c_PC_addBetween (l : Launch) (dC : Nat → ClassId) (dI : Nat → Nat → Nat) (cJ cI : ClassId) (sz : Nat) (ob : Nat) (wi : Int32) (hi : Int32) (fo : Int32) (gi : Nat) (gia : Nat) (gin : Int32) (gif : Nat → Int64) (ke : Nat) (kea : Nat) (ken : Int32) (kef : Nat → Int64) (sp : Nat) (spa : Nat) (spn : Int32) (spf : Nat → Int64) (pi : Nat) (pia : Nat) (pin : Int32) (pif : Nat → Int64) (fa : Nat) (fas : Nat) (fat : Nat) (faa : Nat) (fan : Int32) (faS : Nat → Int32) (faT : Nat → Int32) (faA : Nat → Int32) (st : Int32) (le : Int32) (sd : Int32) : Met l y_PC_addBetween w_PC_addBetween ({ frames := 3, cells := 0, slots := 0, locals := 71 } : Room) (rq_rw (dC, dI) cJ cI sz [.ref ob, .int st, .int le, .int sd] [(ob, .inr (0, [.int wi, .int hi, .int fo, .ref gi, .ref ke, .ref sp, .ref pi, .ref fa])), (gi, .inr (1, [.ref gia, .int gin])), (gia, .inl (cJ, 114, .inr (.inl gif))), (ke, .inr (1, [.ref kea, .int ken])), (kea, .inl (cJ, 114, .inr (.inl kef))), (sp, .inr (1, [.ref spa, .int spn])), (spa, .inl (cJ, 114, .inr (.inl spf))), (pi, .inr (1, [.ref pia, .int pin])), (pia, .inl (cJ, 114, .inr (.inl pif))), (fa, .inr (2, [.ref fas, .ref fat, .ref faa, .int fan])), (fas, .inl (cI, 17, .inl faS)), (fat, .inl (cI, 17, .inl faT)), (faa, .inl (cI, 17, .inl faA))]) (va_Qv (fun _ : Unit => True) (rz (dC, dI) (va_A [(ob, .inr (0, [.int wi, .int hi, .int fo, .ref gi, .ref ke, .ref sp, .ref pi, .ref fa])), (gi, .inr (1, [.ref gia, .int gin])), (gia, .inl (cJ, 114, .inr (.inl gif))), (ke, .inr (1, [.ref kea, .int ken])), (kea, .inl (cJ, 114, .inr (.inl kef))), (sp, .inr (1, [.ref spa, .int spn])), (spa, .inl (cJ, 114, .inr (.inl spf))), (pi, .inr (1, [.ref pia, .int pin])), (pia, .inl (cJ, 114, .inr (.inl pif))), (fa, .inr (2, [.ref fas, .ref fat, .ref faa, .int fan])), (fas, .inl (cI, 17, .inl faS)), (fat, .inl (cI, 17, .inl faT)), (faa, .inl (cI, 17, .inl faA))] sz) [(ob, .inr (0, [.int wi, .int hi, .int fo, .ref gi, .ref ke, .ref sp, .ref pi, .ref fa])), (gi, .inr (1, [.ref gia, .int gin])), (gia, .inl (cJ, 114, .inr (.inl gif))), (ke, .inr (1, [.ref kea, .int ken])), (kea, .inl (cJ, 114, .inr (.inl kef))), (sp, .inr (1, [.ref spa, .int (f_Ri_addRow_0_1 spn)])), (spa, .inl (cJ, 114, .inr (.inl (f_PC_addBetween_6 wi hi fo ken kef spn spf st le sd)))), (pi, .inr (1, [.ref pia, .int pin])), (pia, .inl (cJ, 114, .inr (.inl pif))), (fa, .inr (2, [.ref fas, .ref fat, .ref faa, .int fan])), (fas, .inl (cI, 17, .inl faS)), (fat, .inl (cI, 17, .inl faT)), (faa, .inl (cI, 17, .inl faA))]) (va_A [(ob, .inr (0, [.int wi, .int hi, .int fo, .ref gi, .ref ke, .ref sp, .ref pi, .ref fa])), (gi, .inr (1, [.ref gia, .int gin])), (gia, .inl (cJ, 114, .inr (.inl gif))), (ke, .inr (1, [.ref kea, .int ken])), (kea, .inl (cJ, 114, .inr (.inl kef))), (sp, .inr (1, [.ref spa, .int spn])), (spa, .inl (cJ, 114, .inr (.inl spf))), (pi, .inr (1, [.ref pia, .int pin])), (pia, .inl (cJ, 114, .inr (.inl pif))), (fa, .inr (2, [.ref fas, .ref fat, .ref faa, .int fan])), (fas, .inl (cI, 17, .inl faS)), (fat, .inl (cI, 17, .inl faT)), (faa, .inl (cI, 17, .inl faA))] sz)) 0 0 (va_A [(ob, .inr (0, [.int wi, .int hi, .int fo, .ref gi, .ref ke, .ref sp, .ref pi, .ref fa])), (gi, .inr (1, [.ref gia, .int gin])), (gia, .inl (cJ, 114, .inr (.inl gif))), (ke, .inr (1, [.ref kea, .int ken])), (kea, .inl (cJ, 114, .inr (.inl kef))), (sp, .inr (1, [.ref spa, .int spn])), (spa, .inl (cJ, 114, .inr (.inl spf))), (pi, .inr (1, [.ref pia, .int pin])), (pia, .inl (cJ, 114, .inr (.inl pif))), (fa, .inr (2, [.ref fas, .ref fat, .ref faa, .int fan])), (fas, .inl (cI, 17, .inl faS)), (fat, .inl (cI, 17, .inl faT)), (faa, .inl (cI, 17, .inl faA))] sz) := by
  refine Met.ofW (cc := b_PC_addBetween) (maxL := 14) (ret := none) (by decide) rfl ?_
  intro p e s m args below meth c s₁ B hml hv
  obtain ⟨rfl, hsz, hP, hK, hN, hD0⟩ := hv
  have hx := B.exec
  have hb := B.bytes
  have hr := B.returns
  have hts := atoms_spec (ws := w_PC_addBetween) B.pre
  have hown : s.vm.findClass R_PC = some m.cls := findClass_of_methodNamed B.named
  have hlocks := B.notSynchronized
  subst hsz
  have hD := hD0.self (sz := s.heap.size)
  generalize hAe : va_A [(ob, .inr (0, [.int wi, .int hi, .int fo, .ref gi, .ref ke, .ref sp, .ref pi, .ref fa])), (gi, .inr (1, [.ref gia, .int gin])), (gia, .inl (cJ, 114, .inr (.inl gif))), (ke, .inr (1, [.ref kea, .int ken])), (kea, .inl (cJ, 114, .inr (.inl kef))), (sp, .inr (1, [.ref spa, .int spn])), (spa, .inl (cJ, 114, .inr (.inl spf))), (pi, .inr (1, [.ref pia, .int pin])), (pia, .inl (cJ, 114, .inr (.inl pif))), (fa, .inr (2, [.ref fas, .ref fat, .ref faa, .int fan])), (fas, .inl (cI, 17, .inl faS)), (fat, .inl (cI, 17, .inl faT)), (faa, .inl (cI, 17, .inl faA))] s.heap.size = A at hD ⊢
  have hA : ∀ q : Nat, s.heap.size ≤ q → A q := fun q h => by rw [← hAe]; exact Or.inr h
  have hS : va_S A s.heap s.heap [] := va_S.rf
  have hl := lv_entry ([.ref ob, .int st, .int le, .int sd]) (n := 14) (Nat.le_of_ble_eq_true rfl)
  rw [lg_entry_eq]
  generalize (lg_sl ([.ref ob, .int st, .int le, .int sd]) ++ List.replicate (14 - (lg_sl ([.ref ob, .int st, .int le, .int sd])).length) Slot.unset).toArray = ls at hl ⊢
  have hl : lv_has ls 14 [(0, .ref ob), (1, .int st), (2, .int le), (3, .int sd)] := hl
  have hP : va_P (dC, dI) cls4 [(ob, .inr (0, [.int wi, .int hi, .int fo, .ref gi, .ref ke, .ref sp, .ref pi, .ref fa])), (gi, .inr (1, [.ref gia, .int gin])), (gia, .inl (cJ, 114, .inr (.inl gif))), (ke, .inr (1, [.ref kea, .int ken])), (kea, .inl (cJ, 114, .inr (.inl kef))), (sp, .inr (1, [.ref spa, .int spn])), (spa, .inl (cJ, 114, .inr (.inl spf))), (pi, .inr (1, [.ref pia, .int pin])), (pia, .inl (cJ, 114, .inr (.inl pif))), (fa, .inr (2, [.ref fas, .ref fat, .ref faa, .int fan])), (fas, .inl (cI, 17, .inl faS)), (fat, .inl (cI, 17, .inl faT)), (faa, .inl (cI, 17, .inl faA))] s.heap := hP
  refine lv_aload_n hx hb d_PC_addBetween_0 rfl (lv_at hl 0 rfl) ?_
  refine lv_iload_n hx hb d_PC_addBetween_1 rfl (lv_at hl 1 rfl) ?_
  refine lv_iload_n hx hb d_PC_addBetween_2 rfl (lv_at hl 3 rfl) ?_
  have hPc := hP
  refine vp_callSl (va_Run.run (va_runV (As := [.int st, .int sd]) (rest := []) ⟨hx, hb, hml, hown, hts⟩ (c_PC_sideNumber l dC dI cJ cI ob wi hi fo gi gia gin gif ke kea ken kef sp spa spn spf pi pia pin pif fa fas fat faa fan faS faT faA st sd) (cwV 2 hts (gd_V wd_141 wd_142 wd_7 wd_33 wd_143) rfl rfl rfl (by decide +kernel) ⟨Nat.le_of_ble_eq_true rfl, Nat.le_of_ble_eq_true rfl⟩) ⟨fb_ro, va_recv hK hPc (ci := 0) (q0 := 0) rfl rfl, pre_ro hK hN hPc⟩ rfl rfl hl.1 rfl (lv_room (Nat.le_of_ble_eq_true rfl)) d_PC_addBetween_3 ⟨Nat.le_of_ble_eq_true rfl, Nat.le_of_ble_eq_true rfl⟩)) (fun r_1 er_1 => ?_)
  have er_1 : r_1 = f_PC_sideNumber wi hi fo ken kef st sd := er_1
  refine lv_lstore (lv' := [(4, .long r_1), (0, .ref ob), (1, .int st), (2, .int le), (3, .int sd)]) hx hb d_PC_addBetween_6 hl (by decide) rfl (fun ls hl => ?_)
  refine lv_aload_n hx hb d_PC_addBetween_8 rfl (lv_at hl 1 rfl) ?_
  refine lv_iload_n hx hb d_PC_addBetween_9 rfl (lv_at hl 3 rfl) ?_
  refine lv_iload_n hx hb d_PC_addBetween_10 rfl (lv_at hl 4 rfl) ?_
  have hPc := hP
  refine vp_callSl (va_Run.run (va_runV (As := [.int le, .int sd]) (rest := []) ⟨hx, hb, hml, hown, hts⟩ (c_PC_sideNumber l dC dI cJ cI ob wi hi fo gi gia gin gif ke kea ken kef sp spa spn spf pi pia pin pif fa fas fat faa fan faS faT faA le sd) (cwV 2 hts (gd_V wd_141 wd_142 wd_7 wd_33 wd_143) rfl rfl rfl (by decide +kernel) ⟨Nat.le_of_ble_eq_true rfl, Nat.le_of_ble_eq_true rfl⟩) ⟨fb_ro, va_recv hK hPc (ci := 0) (q0 := 0) rfl rfl, pre_ro hK hN hPc⟩ rfl rfl hl.1 rfl (lv_room (Nat.le_of_ble_eq_true rfl)) d_PC_addBetween_11 ⟨Nat.le_of_ble_eq_true rfl, Nat.le_of_ble_eq_true rfl⟩)) (fun r_2 er_2 => ?_)
  have er_2 : r_2 = f_PC_sideNumber wi hi fo ken kef le sd := er_2
  refine lv_lstore (lv' := [(6, .long r_2), (4, .long r_1), (0, .ref ob), (1, .int st), (2, .int le), (3, .int sd)]) hx hb d_PC_addBetween_14 hl (by decide) rfl (fun ls hl => ?_)
  refine lv_aload_n hx hb d_PC_addBetween_16 rfl (lv_at hl 2 rfl) ?_
  refine va_get (D := (dC, dI)) (ci := 0) (v := .ref sp) (C := R_PC) (T := F_PC) (N := 8) hx hb hts (fun w h => mw (i_PC w h)) hown hK hP 0 rfl rfl 5 (by decide) (hts _ (mw wd_86)) (fun _ h9 => h9) rfl d_PC_addBetween_17 ?_
  have hPc := hP.sub (ws' := [(sp, .inr (1, [.ref spa, .int spn])), (spa, .inl (cJ, 114, .inr (.inl spf)))]) [5, 6] rfl
  have hDc := hD.sub (ws' := [(sp, .inr (1, [.ref spa, .int spn])), (spa, .inl (cJ, 114, .inr (.inl spf)))]) [5, 6] (by decide) rfl
  have hFc := va_free (wc := [(sp, .inr (1, [.ref spa, .int spn])), (spa, .inl (cJ, 114, .inr (.inl spf)))]) hD hS hA [5, 6] rfl
  refine va_calli (va_runVN (As := []) (rest := []) ⟨hx, hb, hml, hown, hts⟩ (c_Ri_addRow l dC dI cJ cI s.heap.size sp spa spn spf) (⟨va_cnB 0 hts (gd_0 wd_66) rfl rfl rfl (hN _ nw_2) (hts _ (mw wd_35)) (by decide +kernel) ⟨Nat.le_of_ble_eq_true rfl, Nat.le_of_ble_eq_true rfl⟩, (hts _ (mw wd_65)), (hts _ (mw wd_0))⟩) ⟨fb_rw, va_recv hK hPc (ci := 1) (q0 := 0) rfl rfl, pre_rw hK hN hPc hDc⟩ rfl rfl hl.1 rfl (lv_room (Nat.le_of_ble_eq_true rfl)) d_PC_addBetween_20 ⟨Nat.le_of_ble_eq_true rfl, Nat.le_of_ble_eq_true rfl⟩) hS (fun q _ h => hFc q h) hFc (fun r_3 u t H locs ht hvm hw hB hz1 hk1 hS => ?_)
  obtain ⟨hP1, hD1⟩ := hB
  rw [ht] at hP1
  obtain ⟨hP, hD⟩ := va_join (wr := [(ob, .inr (0, [.int wi, .int hi, .int fo, .ref gi, .ref ke, .ref sp, .ref pi, .ref fa])), (gi, .inr (1, [.ref gia, .int gin])), (gia, .inl (cJ, 114, .inr (.inl gif))), (ke, .inr (1, [.ref kea, .int ken])), (kea, .inl (cJ, 114, .inr (.inl kef))), (pi, .inr (1, [.ref pia, .int pin])), (pia, .inl (cJ, 114, .inr (.inl pif))), (fa, .inr (2, [.ref fas, .ref fat, .ref faa, .int fan])), (fas, .inl (cI, 17, .inl faS)), (fat, .inl (cI, 17, .inl faT)), (faa, .inl (cI, 17, .inl faA))]) (w1 := [(sp, .inr (1, [.ref spa, .int (f_Ri_addRow_0_1 spn)])), (spa, .inl (cJ, 114, .inr (.inl spf)))]) hP hD [5, 6] [0, 1, 2, 3, 4, 7, 8, 9, 10, 11, 12] rfl rfl (by decide) (by decide) hk1 hFc hP1 hD1
  have er_3 := hw
  have er_3 : r_3 = f_Ri_addRow_r spn := er_3
  have hP : va_P (dC, dI) cls4 [(ob, .inr (0, [.int wi, .int hi, .int fo, .ref gi, .ref ke, .ref sp, .ref pi, .ref fa])), (gi, .inr (1, [.ref gia, .int gin])), (gia, .inl (cJ, 114, .inr (.inl gif))), (ke, .inr (1, [.ref kea, .int ken])), (kea, .inl (cJ, 114, .inr (.inl kef))), (sp, .inr (1, [.ref spa, .int (f_Ri_addRow_0_1 spn)])), (spa, .inl (cJ, 114, .inr (.inl spf))), (pi, .inr (1, [.ref pia, .int pin])), (pia, .inl (cJ, 114, .inr (.inl pif))), (fa, .inr (2, [.ref fas, .ref fat, .ref faa, .int fan])), (fas, .inl (cI, 17, .inl faS)), (fat, .inl (cI, 17, .inl faT)), (faa, .inl (cI, 17, .inl faA))] H := hP.sub [0, 1, 2, 3, 4, 11, 12, 5, 6, 7, 8, 9, 10] rfl
  have hD : va_D A [(ob, .inr (0, [.int wi, .int hi, .int fo, .ref gi, .ref ke, .ref sp, .ref pi, .ref fa])), (gi, .inr (1, [.ref gia, .int gin])), (gia, .inl (cJ, 114, .inr (.inl gif))), (ke, .inr (1, [.ref kea, .int ken])), (kea, .inl (cJ, 114, .inr (.inl kef))), (sp, .inr (1, [.ref spa, .int (f_Ri_addRow_0_1 spn)])), (spa, .inl (cJ, 114, .inr (.inl spf))), (pi, .inr (1, [.ref pia, .int pin])), (pia, .inl (cJ, 114, .inr (.inl pif))), (fa, .inr (2, [.ref fas, .ref fat, .ref faa, .int fan])), (fas, .inl (cI, 17, .inl faS)), (fat, .inl (cI, 17, .inl faT)), (faa, .inl (cI, 17, .inl faA))] := hD.sub [0, 1, 2, 3, 4, 11, 12, 5, 6, 7, 8, 9, 10] (by decide) rfl
  refine lv_istore (lv' := [(8, .int r_3), (6, .long r_2), (4, .long r_1), (0, .ref ob), (1, .int st), (2, .int le), (3, .int sd)]) hx hb d_PC_addBetween_23 hl (by decide) rfl (fun ls hl => ?_)
  refine lv_iconst (v := 0) hx hb d_PC_addBetween_25 (by decide) ?_
  refine lv_istore (lv' := [(9, .int 0), (8, .int r_3), (6, .long r_2), (4, .long r_1), (0, .ref ob), (1, .int st), (2, .int le), (3, .int sd)]) hx hb d_PC_addBetween_26 hl (by decide) rfl (fun ls hl => ?_)
  refine lv_iload hx hb d_PC_addBetween_28 (lv_at hl 0 rfl) ?_
  refine lv_bipush (v := 6) hx hb d_PC_addBetween_30 (by decide) ?_
  refine lv_icmp_ge (tgt := 95) hx hb d_PC_addBetween_32 (by decide) (fun c_4 => absurd c_4 (by decide)) (fun _ => ?_)
  refine lv_aload_n hx hb d_PC_addBetween_35 rfl (lv_at hl 4 rfl) ?_
  refine va_get (D := (dC, dI)) (ci := 0) (v := .ref ke) (C := R_PC) (T := F_PC) (N := 8) hx hb hts (fun w h => mw (i_PC w h)) hown hK hP 0 rfl rfl 4 (by decide) (hts _ (mw wd_85)) (fun _ h9 => h9) rfl d_PC_addBetween_36 ?_
  refine lv_iload_n hx hb d_PC_addBetween_39 rfl (lv_at hl 5 rfl) ?_
  refine lv_iload hx hb d_PC_addBetween_40 (lv_at hl 0 rfl) ?_
  have hPc := hP.sub (ws' := [(ke, .inr (1, [.ref kea, .int ken])), (kea, .inl (cJ, 114, .inr (.inl kef)))]) [3, 4] rfl
  refine vp_callSl (va_Run.run (va_runVN (As := [.int st, .int 0]) (rest := []) ⟨hx, hb, hml, hown, hts⟩ (c_Ri_at l dC dI cJ cI ke kea ken kef st 0) (⟨va_cnB 2 hts (gd_0 wd_136) rfl rfl rfl (hN _ nw_10) (hts _ (mw wd_35)) (by decide +kernel) ⟨Nat.le_of_ble_eq_true rfl, Nat.le_of_ble_eq_true rfl⟩, (hts _ (mw wd_135)), (hts _ (mw wd_5))⟩) ⟨fb_ro, va_recv hK hPc (ci := 1) (q0 := 0) rfl rfl, pre_ro hK hN hPc⟩ rfl rfl hl.1 rfl (lv_room (Nat.le_of_ble_eq_true rfl)) d_PC_addBetween_42 ⟨Nat.le_of_ble_eq_true rfl, Nat.le_of_ble_eq_true rfl⟩)) (fun r_5 er_5 => ?_)
  have er_5 : r_5 = f_Ri_at ken kef st 0 := er_5
  refine lv_lstore (lv' := [(10, .long r_5), (9, .int 0), (8, .int r_3), (6, .long r_2), (4, .long r_1), (0, .ref ob), (1, .int st), (2, .int le), (3, .int sd)]) hx hb d_PC_addBetween_45 hl (by decide) rfl (fun ls hl => ?_)
  refine lv_aload_n hx hb d_PC_addBetween_47 rfl (lv_at hl 5 rfl) ?_
  refine va_get (D := (dC, dI)) (ci := 0) (v := .ref ke) (C := R_PC) (T := F_PC) (N := 8) hx hb hts (fun w h => mw (i_PC w h)) hown hK hP 0 rfl rfl 4 (by decide) (hts _ (mw wd_85)) (fun _ h9 => h9) rfl d_PC_addBetween_48 ?_
  refine lv_iload_n hx hb d_PC_addBetween_51 rfl (lv_at hl 7 rfl) ?_
  refine lv_iload hx hb d_PC_addBetween_52 (lv_at hl 1 rfl) ?_
  have hPc := hP.sub (ws' := [(ke, .inr (1, [.ref kea, .int ken])), (kea, .inl (cJ, 114, .inr (.inl kef)))]) [3, 4] rfl
  refine vp_callSl (va_Run.run (va_runVN (As := [.int le, .int 0]) (rest := []) ⟨hx, hb, hml, hown, hts⟩ (c_Ri_at l dC dI cJ cI ke kea ken kef le 0) (⟨va_cnB 2 hts (gd_0 wd_136) rfl rfl rfl (hN _ nw_10) (hts _ (mw wd_35)) (by decide +kernel) ⟨Nat.le_of_ble_eq_true rfl, Nat.le_of_ble_eq_true rfl⟩, (hts _ (mw wd_135)), (hts _ (mw wd_5))⟩) ⟨fb_ro, va_recv hK hPc (ci := 1) (q0 := 0) rfl rfl, pre_ro hK hN hPc⟩ rfl rfl hl.1 rfl (lv_room (Nat.le_of_ble_eq_true rfl)) d_PC_addBetween_54 ⟨Nat.le_of_ble_eq_true rfl, Nat.le_of_ble_eq_true rfl⟩)) (fun r_6 er_6 => ?_)
  have er_6 : r_6 = f_Ri_at ken kef le 0 := er_6
  refine lv_lstore (lv' := [(12, .long r_6), (10, .long r_5), (9, .int 0), (8, .int r_3), (6, .long r_2), (4, .long r_1), (0, .ref ob), (1, .int st), (2, .int le), (3, .int sd)]) hx hb d_PC_addBetween_57 hl (by decide) rfl (fun ls hl => ?_)
  refine lv_aload_n hx hb d_PC_addBetween_59 rfl (lv_at hl 6 rfl) ?_
  refine va_get (D := (dC, dI)) (ci := 0) (v := .ref sp) (C := R_PC) (T := F_PC) (N := 8) hx hb hts (fun w h => mw (i_PC w h)) hown hK hP 0 rfl rfl 5 (by decide) (hts _ (mw wd_86)) (fun _ h9 => h9) rfl d_PC_addBetween_60 ?_
  refine lv_iload hx hb d_PC_addBetween_63 (lv_at hl 3 rfl) ?_
  refine lv_iload hx hb d_PC_addBetween_65 (lv_at hl 2 rfl) ?_
  refine lv_lload hx hb d_PC_addBetween_67 (lv_at hl 1 rfl) ?_
  refine lv_lload hx hb d_PC_addBetween_69 (lv_at hl 0 rfl) ?_
  refine lv_lload hx hb d_PC_addBetween_71 (lv_at hl 1 rfl) ?_
  refine lv_lsub hx hb d_PC_addBetween_73 ?_
  refine lv_lload hx hb d_PC_addBetween_74 (lv_at hl 5 rfl) ?_
  refine lv_lmul hx hb d_PC_addBetween_76 ?_
  refine lv_lload hx hb d_PC_addBetween_77 (lv_at hl 5 rfl) ?_
  refine lv_lload hx hb d_PC_addBetween_79 (lv_at hl 4 rfl) ?_
  refine lv_lsub hx hb d_PC_addBetween_81 ?_
  refine vp_callSl (va_Run.run (va_runS (As := [.long ((r_6 - r_5) * r_1), .long (r_1 - r_2)]) (rest := [.long r_5, .int 0, .int r_3, .ref sp]) ⟨hx, hb, hml, hown, hts⟩ (c_PC_div l dC dI cJ cI ((r_6 - r_5) * r_1) (r_1 - r_2)) (va_cwS 2 hts (gd_S wd_148 wd_149 wd_33 wd_150) rfl rfl rfl (by decide +kernel) ⟨Nat.le_of_ble_eq_true rfl, Nat.le_of_ble_eq_true rfl⟩) ⟨fb_ro, pre_ro hK hN va_nil⟩ rfl rfl hl.1 rfl (lv_room (Nat.le_of_ble_eq_true rfl)) d_PC_addBetween_82 ⟨Nat.le_of_ble_eq_true rfl, Nat.le_of_ble_eq_true rfl⟩)) (fun r_7 er_7 => ?_)
  have er_7 : r_7 = f_PC_div ((r_6 - r_5) * r_1) (r_1 - r_2) := er_7
  refine lv_ladd hx hb d_PC_addBetween_85 ?_
  have hPc := hP.sub (ws' := [(sp, .inr (1, [.ref spa, .int (f_Ri_addRow_0_1 spn)])), (spa, .inl (cJ, 114, .inr (.inl spf)))]) [5, 6] rfl
  have hDc := hD.sub (ws' := [(sp, .inr (1, [.ref spa, .int (f_Ri_addRow_0_1 spn)])), (spa, .inl (cJ, 114, .inr (.inl spf)))]) [5, 6] (by decide) rfl
  have hFc := va_free (wc := [(sp, .inr (1, [.ref spa, .int (f_Ri_addRow_0_1 spn)])), (spa, .inl (cJ, 114, .inr (.inl spf)))]) hD hS hA [5, 6] rfl
  refine va_callv (va_runVN (As := [.int r_3, .int 0, .long (r_5 + r_7)]) (rest := []) ⟨hx, hb, hml, hown, hts⟩ (c_Ri_put l dC dI cJ cI H.size sp spa (f_Ri_addRow_0_1 spn) spf r_3 0 (r_5 + r_7)) (⟨va_cnB 3 hts (gd_0 wd_113) rfl rfl rfl (hN _ nw_7) (hts _ (mw wd_35)) (by decide +kernel) ⟨Nat.le_of_ble_eq_true rfl, Nat.le_of_ble_eq_true rfl⟩, (hts _ (mw wd_112)), (hts _ (mw wd_2))⟩) ⟨fb_rw, va_recv hK hPc (ci := 1) (q0 := 0) rfl rfl, pre_rw hK hN hPc hDc⟩ rfl rfl hl.1 rfl (lv_room (Nat.le_of_ble_eq_true rfl)) d_PC_addBetween_86 ⟨Nat.le_of_ble_eq_true rfl, Nat.le_of_ble_eq_true rfl⟩) hS (fun q _ h => hFc q h) hFc (fun u t H locs ht hvm hw hB hz1 hk1 hS => ?_)
  obtain ⟨hP1, hD1⟩ := hB
  rw [ht] at hP1
  obtain ⟨hP, hD⟩ := va_join (wr := [(ob, .inr (0, [.int wi, .int hi, .int fo, .ref gi, .ref ke, .ref sp, .ref pi, .ref fa])), (gi, .inr (1, [.ref gia, .int gin])), (gia, .inl (cJ, 114, .inr (.inl gif))), (ke, .inr (1, [.ref kea, .int ken])), (kea, .inl (cJ, 114, .inr (.inl kef))), (pi, .inr (1, [.ref pia, .int pin])), (pia, .inl (cJ, 114, .inr (.inl pif))), (fa, .inr (2, [.ref fas, .ref fat, .ref faa, .int fan])), (fas, .inl (cI, 17, .inl faS)), (fat, .inl (cI, 17, .inl faT)), (faa, .inl (cI, 17, .inl faA))]) (w1 := [(sp, .inr (1, [.ref spa, .int (f_Ri_addRow_0_1 spn)])), (spa, .inl (cJ, 114, .inr (.inl (f_Ri_put_1 (f_Ri_addRow_0_1 spn) spf r_3 0 (r_5 + r_7)))))]) hP hD [5, 6] [0, 1, 2, 3, 4, 7, 8, 9, 10, 11, 12] rfl rfl (by decide) (by decide) hk1 hFc hP1 hD1
  have hP : va_P (dC, dI) cls4 [(ob, .inr (0, [.int wi, .int hi, .int fo, .ref gi, .ref ke, .ref sp, .ref pi, .ref fa])), (gi, .inr (1, [.ref gia, .int gin])), (gia, .inl (cJ, 114, .inr (.inl gif))), (ke, .inr (1, [.ref kea, .int ken])), (kea, .inl (cJ, 114, .inr (.inl kef))), (sp, .inr (1, [.ref spa, .int (f_Ri_addRow_0_1 spn)])), (spa, .inl (cJ, 114, .inr (.inl (f_Ri_put_1 (f_Ri_addRow_0_1 spn) spf r_3 0 (r_5 + r_7))))), (pi, .inr (1, [.ref pia, .int pin])), (pia, .inl (cJ, 114, .inr (.inl pif))), (fa, .inr (2, [.ref fas, .ref fat, .ref faa, .int fan])), (fas, .inl (cI, 17, .inl faS)), (fat, .inl (cI, 17, .inl faT)), (faa, .inl (cI, 17, .inl faA))] H := hP.sub [0, 1, 2, 3, 4, 11, 12, 5, 6, 7, 8, 9, 10] rfl
  have hD : va_D A [(ob, .inr (0, [.int wi, .int hi, .int fo, .ref gi, .ref ke, .ref sp, .ref pi, .ref fa])), (gi, .inr (1, [.ref gia, .int gin])), (gia, .inl (cJ, 114, .inr (.inl gif))), (ke, .inr (1, [.ref kea, .int ken])), (kea, .inl (cJ, 114, .inr (.inl kef))), (sp, .inr (1, [.ref spa, .int (f_Ri_addRow_0_1 spn)])), (spa, .inl (cJ, 114, .inr (.inl (f_Ri_put_1 (f_Ri_addRow_0_1 spn) spf r_3 0 (r_5 + r_7))))), (pi, .inr (1, [.ref pia, .int pin])), (pia, .inl (cJ, 114, .inr (.inl pif))), (fa, .inr (2, [.ref fas, .ref fat, .ref faa, .int fan])), (fas, .inl (cI, 17, .inl faS)), (fat, .inl (cI, 17, .inl faT)), (faa, .inl (cI, 17, .inl faA))] := hD.sub [0, 1, 2, 3, 4, 11, 12, 5, 6, 7, 8, 9, 10] (by decide) rfl
  refine lv_iinc (v := 1) (lv' := [(9, .int 1), (12, .long r_6), (10, .long r_5), (8, .int r_3), (6, .long r_2), (4, .long r_1), (0, .ref ob), (1, .int st), (2, .int le), (3, .int sd)]) hx hb d_PC_addBetween_89 hl (k := 2) rfl (by decide) (by decide) rfl (fun ls hl => ?_)
  refine lv_goto (tgt := 28) hx hb d_PC_addBetween_92 (by decide) ?_
  refine lv_iload hx hb d_PC_addBetween_28 (lv_at hl 0 rfl) ?_
  refine lv_bipush (v := 6) hx hb d_PC_addBetween_30 (by decide) ?_
  refine lv_icmp_ge (tgt := 95) hx hb d_PC_addBetween_32 (by decide) (fun c_8 => absurd c_8 (by decide)) (fun _ => ?_)
  refine lv_aload_n hx hb d_PC_addBetween_35 rfl (lv_at hl 6 rfl) ?_
  refine va_get (D := (dC, dI)) (ci := 0) (v := .ref ke) (C := R_PC) (T := F_PC) (N := 8) hx hb hts (fun w h => mw (i_PC w h)) hown hK hP 0 rfl rfl 4 (by decide) (hts _ (mw wd_85)) (fun _ h9 => h9) rfl d_PC_addBetween_36 ?_
  refine lv_iload_n hx hb d_PC_addBetween_39 rfl (lv_at hl 7 rfl) ?_
  refine lv_iload hx hb d_PC_addBetween_40 (lv_at hl 0 rfl) ?_
  have hPc := hP.sub (ws' := [(ke, .inr (1, [.ref kea, .int ken])), (kea, .inl (cJ, 114, .inr (.inl kef)))]) [3, 4] rfl
  refine vp_callSl (va_Run.run (va_runVN (As := [.int st, .int 1]) (rest := []) ⟨hx, hb, hml, hown, hts⟩ (c_Ri_at l dC dI cJ cI ke kea ken kef st 1) (⟨va_cnB 2 hts (gd_0 wd_136) rfl rfl rfl (hN _ nw_10) (hts _ (mw wd_35)) (by decide +kernel) ⟨Nat.le_of_ble_eq_true rfl, Nat.le_of_ble_eq_true rfl⟩, (hts _ (mw wd_135)), (hts _ (mw wd_5))⟩) ⟨fb_ro, va_recv hK hPc (ci := 1) (q0 := 0) rfl rfl, pre_ro hK hN hPc⟩ rfl rfl hl.1 rfl (lv_room (Nat.le_of_ble_eq_true rfl)) d_PC_addBetween_42 ⟨Nat.le_of_ble_eq_true rfl, Nat.le_of_ble_eq_true rfl⟩)) (fun r_9 er_9 => ?_)
  have er_9 : r_9 = f_Ri_at ken kef st 1 := er_9
  refine lv_lstore (lv' := [(10, .long r_9), (9, .int 1), (12, .long r_6), (8, .int r_3), (6, .long r_2), (4, .long r_1), (0, .ref ob), (1, .int st), (2, .int le), (3, .int sd)]) hx hb d_PC_addBetween_45 hl (by decide) rfl (fun ls hl => ?_)
  refine lv_aload_n hx hb d_PC_addBetween_47 rfl (lv_at hl 6 rfl) ?_
  refine va_get (D := (dC, dI)) (ci := 0) (v := .ref ke) (C := R_PC) (T := F_PC) (N := 8) hx hb hts (fun w h => mw (i_PC w h)) hown hK hP 0 rfl rfl 4 (by decide) (hts _ (mw wd_85)) (fun _ h9 => h9) rfl d_PC_addBetween_48 ?_
  refine lv_iload_n hx hb d_PC_addBetween_51 rfl (lv_at hl 8 rfl) ?_
  refine lv_iload hx hb d_PC_addBetween_52 (lv_at hl 1 rfl) ?_
  have hPc := hP.sub (ws' := [(ke, .inr (1, [.ref kea, .int ken])), (kea, .inl (cJ, 114, .inr (.inl kef)))]) [3, 4] rfl
  refine vp_callSl (va_Run.run (va_runVN (As := [.int le, .int 1]) (rest := []) ⟨hx, hb, hml, hown, hts⟩ (c_Ri_at l dC dI cJ cI ke kea ken kef le 1) (⟨va_cnB 2 hts (gd_0 wd_136) rfl rfl rfl (hN _ nw_10) (hts _ (mw wd_35)) (by decide +kernel) ⟨Nat.le_of_ble_eq_true rfl, Nat.le_of_ble_eq_true rfl⟩, (hts _ (mw wd_135)), (hts _ (mw wd_5))⟩) ⟨fb_ro, va_recv hK hPc (ci := 1) (q0 := 0) rfl rfl, pre_ro hK hN hPc⟩ rfl rfl hl.1 rfl (lv_room (Nat.le_of_ble_eq_true rfl)) d_PC_addBetween_54 ⟨Nat.le_of_ble_eq_true rfl, Nat.le_of_ble_eq_true rfl⟩)) (fun r_10 er_10 => ?_)
  have er_10 : r_10 = f_Ri_at ken kef le 1 := er_10
  refine lv_lstore (lv' := [(12, .long r_10), (10, .long r_9), (9, .int 1), (8, .int r_3), (6, .long r_2), (4, .long r_1), (0, .ref ob), (1, .int st), (2, .int le), (3, .int sd)]) hx hb d_PC_addBetween_57 hl (by decide) rfl (fun ls hl => ?_)
  refine lv_aload_n hx hb d_PC_addBetween_59 rfl (lv_at hl 6 rfl) ?_
  refine va_get (D := (dC, dI)) (ci := 0) (v := .ref sp) (C := R_PC) (T := F_PC) (N := 8) hx hb hts (fun w h => mw (i_PC w h)) hown hK hP 0 rfl rfl 5 (by decide) (hts _ (mw wd_86)) (fun _ h9 => h9) rfl d_PC_addBetween_60 ?_
  refine lv_iload hx hb d_PC_addBetween_63 (lv_at hl 3 rfl) ?_
  refine lv_iload hx hb d_PC_addBetween_65 (lv_at hl 2 rfl) ?_
  refine lv_lload hx hb d_PC_addBetween_67 (lv_at hl 1 rfl) ?_
  refine lv_lload hx hb d_PC_addBetween_69 (lv_at hl 0 rfl) ?_
  refine lv_lload hx hb d_PC_addBetween_71 (lv_at hl 1 rfl) ?_
  refine lv_lsub hx hb d_PC_addBetween_73 ?_
  refine lv_lload hx hb d_PC_addBetween_74 (lv_at hl 5 rfl) ?_
  refine lv_lmul hx hb d_PC_addBetween_76 ?_
  refine lv_lload hx hb d_PC_addBetween_77 (lv_at hl 5 rfl) ?_
  refine lv_lload hx hb d_PC_addBetween_79 (lv_at hl 4 rfl) ?_
  refine lv_lsub hx hb d_PC_addBetween_81 ?_
  refine vp_callSl (va_Run.run (va_runS (As := [.long ((r_10 - r_9) * r_1), .long (r_1 - r_2)]) (rest := [.long r_9, .int 1, .int r_3, .ref sp]) ⟨hx, hb, hml, hown, hts⟩ (c_PC_div l dC dI cJ cI ((r_10 - r_9) * r_1) (r_1 - r_2)) (va_cwS 2 hts (gd_S wd_148 wd_149 wd_33 wd_150) rfl rfl rfl (by decide +kernel) ⟨Nat.le_of_ble_eq_true rfl, Nat.le_of_ble_eq_true rfl⟩) ⟨fb_ro, pre_ro hK hN va_nil⟩ rfl rfl hl.1 rfl (lv_room (Nat.le_of_ble_eq_true rfl)) d_PC_addBetween_82 ⟨Nat.le_of_ble_eq_true rfl, Nat.le_of_ble_eq_true rfl⟩)) (fun r_11 er_11 => ?_)
  have er_11 : r_11 = f_PC_div ((r_10 - r_9) * r_1) (r_1 - r_2) := er_11
  refine lv_ladd hx hb d_PC_addBetween_85 ?_
  have hPc := hP.sub (ws' := [(sp, .inr (1, [.ref spa, .int (f_Ri_addRow_0_1 spn)])), (spa, .inl (cJ, 114, .inr (.inl (f_Ri_put_1 (f_Ri_addRow_0_1 spn) spf r_3 0 (r_5 + r_7)))))]) [5, 6] rfl
  have hDc := hD.sub (ws' := [(sp, .inr (1, [.ref spa, .int (f_Ri_addRow_0_1 spn)])), (spa, .inl (cJ, 114, .inr (.inl (f_Ri_put_1 (f_Ri_addRow_0_1 spn) spf r_3 0 (r_5 + r_7)))))]) [5, 6] (by decide) rfl
  have hFc := va_free (wc := [(sp, .inr (1, [.ref spa, .int (f_Ri_addRow_0_1 spn)])), (spa, .inl (cJ, 114, .inr (.inl (f_Ri_put_1 (f_Ri_addRow_0_1 spn) spf r_3 0 (r_5 + r_7)))))]) hD hS hA [5, 6] rfl
  refine va_callv (va_runVN (As := [.int r_3, .int 1, .long (r_9 + r_11)]) (rest := []) ⟨hx, hb, hml, hown, hts⟩ (c_Ri_put l dC dI cJ cI H.size sp spa (f_Ri_addRow_0_1 spn) (f_Ri_put_1 (f_Ri_addRow_0_1 spn) spf r_3 0 (r_5 + r_7)) r_3 1 (r_9 + r_11)) (⟨va_cnB 3 hts (gd_0 wd_113) rfl rfl rfl (hN _ nw_7) (hts _ (mw wd_35)) (by decide +kernel) ⟨Nat.le_of_ble_eq_true rfl, Nat.le_of_ble_eq_true rfl⟩, (hts _ (mw wd_112)), (hts _ (mw wd_2))⟩) ⟨fb_rw, va_recv hK hPc (ci := 1) (q0 := 0) rfl rfl, pre_rw hK hN hPc hDc⟩ rfl rfl hl.1 rfl (lv_room (Nat.le_of_ble_eq_true rfl)) d_PC_addBetween_86 ⟨Nat.le_of_ble_eq_true rfl, Nat.le_of_ble_eq_true rfl⟩) hS (fun q _ h => hFc q h) hFc (fun u t H locs ht hvm hw hB hz1 hk1 hS => ?_)
  obtain ⟨hP1, hD1⟩ := hB
  rw [ht] at hP1
  obtain ⟨hP, hD⟩ := va_join (wr := [(ob, .inr (0, [.int wi, .int hi, .int fo, .ref gi, .ref ke, .ref sp, .ref pi, .ref fa])), (gi, .inr (1, [.ref gia, .int gin])), (gia, .inl (cJ, 114, .inr (.inl gif))), (ke, .inr (1, [.ref kea, .int ken])), (kea, .inl (cJ, 114, .inr (.inl kef))), (pi, .inr (1, [.ref pia, .int pin])), (pia, .inl (cJ, 114, .inr (.inl pif))), (fa, .inr (2, [.ref fas, .ref fat, .ref faa, .int fan])), (fas, .inl (cI, 17, .inl faS)), (fat, .inl (cI, 17, .inl faT)), (faa, .inl (cI, 17, .inl faA))]) (w1 := [(sp, .inr (1, [.ref spa, .int (f_Ri_addRow_0_1 spn)])), (spa, .inl (cJ, 114, .inr (.inl (f_Ri_put_1 (f_Ri_addRow_0_1 spn) (f_Ri_put_1 (f_Ri_addRow_0_1 spn) spf r_3 0 (r_5 + r_7)) r_3 1 (r_9 + r_11)))))]) hP hD [5, 6] [0, 1, 2, 3, 4, 7, 8, 9, 10, 11, 12] rfl rfl (by decide) (by decide) hk1 hFc hP1 hD1
  have hP : va_P (dC, dI) cls4 [(ob, .inr (0, [.int wi, .int hi, .int fo, .ref gi, .ref ke, .ref sp, .ref pi, .ref fa])), (gi, .inr (1, [.ref gia, .int gin])), (gia, .inl (cJ, 114, .inr (.inl gif))), (ke, .inr (1, [.ref kea, .int ken])), (kea, .inl (cJ, 114, .inr (.inl kef))), (sp, .inr (1, [.ref spa, .int (f_Ri_addRow_0_1 spn)])), (spa, .inl (cJ, 114, .inr (.inl (f_Ri_put_1 (f_Ri_addRow_0_1 spn) (f_Ri_put_1 (f_Ri_addRow_0_1 spn) spf r_3 0 (r_5 + r_7)) r_3 1 (r_9 + r_11))))), (pi, .inr (1, [.ref pia, .int pin])), (pia, .inl (cJ, 114, .inr (.inl pif))), (fa, .inr (2, [.ref fas, .ref fat, .ref faa, .int fan])), (fas, .inl (cI, 17, .inl faS)), (fat, .inl (cI, 17, .inl faT)), (faa, .inl (cI, 17, .inl faA))] H := hP.sub [0, 1, 2, 3, 4, 11, 12, 5, 6, 7, 8, 9, 10] rfl
  have hD : va_D A [(ob, .inr (0, [.int wi, .int hi, .int fo, .ref gi, .ref ke, .ref sp, .ref pi, .ref fa])), (gi, .inr (1, [.ref gia, .int gin])), (gia, .inl (cJ, 114, .inr (.inl gif))), (ke, .inr (1, [.ref kea, .int ken])), (kea, .inl (cJ, 114, .inr (.inl kef))), (sp, .inr (1, [.ref spa, .int (f_Ri_addRow_0_1 spn)])), (spa, .inl (cJ, 114, .inr (.inl (f_Ri_put_1 (f_Ri_addRow_0_1 spn) (f_Ri_put_1 (f_Ri_addRow_0_1 spn) spf r_3 0 (r_5 + r_7)) r_3 1 (r_9 + r_11))))), (pi, .inr (1, [.ref pia, .int pin])), (pia, .inl (cJ, 114, .inr (.inl pif))), (fa, .inr (2, [.ref fas, .ref fat, .ref faa, .int fan])), (fas, .inl (cI, 17, .inl faS)), (fat, .inl (cI, 17, .inl faT)), (faa, .inl (cI, 17, .inl faA))] := hD.sub [0, 1, 2, 3, 4, 11, 12, 5, 6, 7, 8, 9, 10] (by decide) rfl
  refine lv_iinc (v := 2) (lv' := [(9, .int 2), (12, .long r_10), (10, .long r_9), (8, .int r_3), (6, .long r_2), (4, .long r_1), (0, .ref ob), (1, .int st), (2, .int le), (3, .int sd)]) hx hb d_PC_addBetween_89 hl (k := 2) rfl (by decide) (by decide) rfl (fun ls hl => ?_)
  refine lv_goto (tgt := 28) hx hb d_PC_addBetween_92 (by decide) ?_
  refine lv_iload hx hb d_PC_addBetween_28 (lv_at hl 0 rfl) ?_
  refine lv_bipush (v := 6) hx hb d_PC_addBetween_30 (by decide) ?_
  refine lv_icmp_ge (tgt := 95) hx hb d_PC_addBetween_32 (by decide) (fun c_12 => absurd c_12 (by decide)) (fun _ => ?_)
  refine lv_aload_n hx hb d_PC_addBetween_35 rfl (lv_at hl 6 rfl) ?_
  refine va_get (D := (dC, dI)) (ci := 0) (v := .ref ke) (C := R_PC) (T := F_PC) (N := 8) hx hb hts (fun w h => mw (i_PC w h)) hown hK hP 0 rfl rfl 4 (by decide) (hts _ (mw wd_85)) (fun _ h9 => h9) rfl d_PC_addBetween_36 ?_
  refine lv_iload_n hx hb d_PC_addBetween_39 rfl (lv_at hl 7 rfl) ?_
  refine lv_iload hx hb d_PC_addBetween_40 (lv_at hl 0 rfl) ?_
  have hPc := hP.sub (ws' := [(ke, .inr (1, [.ref kea, .int ken])), (kea, .inl (cJ, 114, .inr (.inl kef)))]) [3, 4] rfl
  refine vp_callSl (va_Run.run (va_runVN (As := [.int st, .int 2]) (rest := []) ⟨hx, hb, hml, hown, hts⟩ (c_Ri_at l dC dI cJ cI ke kea ken kef st 2) (⟨va_cnB 2 hts (gd_0 wd_136) rfl rfl rfl (hN _ nw_10) (hts _ (mw wd_35)) (by decide +kernel) ⟨Nat.le_of_ble_eq_true rfl, Nat.le_of_ble_eq_true rfl⟩, (hts _ (mw wd_135)), (hts _ (mw wd_5))⟩) ⟨fb_ro, va_recv hK hPc (ci := 1) (q0 := 0) rfl rfl, pre_ro hK hN hPc⟩ rfl rfl hl.1 rfl (lv_room (Nat.le_of_ble_eq_true rfl)) d_PC_addBetween_42 ⟨Nat.le_of_ble_eq_true rfl, Nat.le_of_ble_eq_true rfl⟩)) (fun r_13 er_13 => ?_)
  have er_13 : r_13 = f_Ri_at ken kef st 2 := er_13
  refine lv_lstore (lv' := [(10, .long r_13), (9, .int 2), (12, .long r_10), (8, .int r_3), (6, .long r_2), (4, .long r_1), (0, .ref ob), (1, .int st), (2, .int le), (3, .int sd)]) hx hb d_PC_addBetween_45 hl (by decide) rfl (fun ls hl => ?_)
  refine lv_aload_n hx hb d_PC_addBetween_47 rfl (lv_at hl 6 rfl) ?_
  refine va_get (D := (dC, dI)) (ci := 0) (v := .ref ke) (C := R_PC) (T := F_PC) (N := 8) hx hb hts (fun w h => mw (i_PC w h)) hown hK hP 0 rfl rfl 4 (by decide) (hts _ (mw wd_85)) (fun _ h9 => h9) rfl d_PC_addBetween_48 ?_
  refine lv_iload_n hx hb d_PC_addBetween_51 rfl (lv_at hl 8 rfl) ?_
  refine lv_iload hx hb d_PC_addBetween_52 (lv_at hl 1 rfl) ?_
  have hPc := hP.sub (ws' := [(ke, .inr (1, [.ref kea, .int ken])), (kea, .inl (cJ, 114, .inr (.inl kef)))]) [3, 4] rfl
  refine vp_callSl (va_Run.run (va_runVN (As := [.int le, .int 2]) (rest := []) ⟨hx, hb, hml, hown, hts⟩ (c_Ri_at l dC dI cJ cI ke kea ken kef le 2) (⟨va_cnB 2 hts (gd_0 wd_136) rfl rfl rfl (hN _ nw_10) (hts _ (mw wd_35)) (by decide +kernel) ⟨Nat.le_of_ble_eq_true rfl, Nat.le_of_ble_eq_true rfl⟩, (hts _ (mw wd_135)), (hts _ (mw wd_5))⟩) ⟨fb_ro, va_recv hK hPc (ci := 1) (q0 := 0) rfl rfl, pre_ro hK hN hPc⟩ rfl rfl hl.1 rfl (lv_room (Nat.le_of_ble_eq_true rfl)) d_PC_addBetween_54 ⟨Nat.le_of_ble_eq_true rfl, Nat.le_of_ble_eq_true rfl⟩)) (fun r_14 er_14 => ?_)
  have er_14 : r_14 = f_Ri_at ken kef le 2 := er_14
  refine lv_lstore (lv' := [(12, .long r_14), (10, .long r_13), (9, .int 2), (8, .int r_3), (6, .long r_2), (4, .long r_1), (0, .ref ob), (1, .int st), (2, .int le), (3, .int sd)]) hx hb d_PC_addBetween_57 hl (by decide) rfl (fun ls hl => ?_)
  refine lv_aload_n hx hb d_PC_addBetween_59 rfl (lv_at hl 6 rfl) ?_
  refine va_get (D := (dC, dI)) (ci := 0) (v := .ref sp) (C := R_PC) (T := F_PC) (N := 8) hx hb hts (fun w h => mw (i_PC w h)) hown hK hP 0 rfl rfl 5 (by decide) (hts _ (mw wd_86)) (fun _ h9 => h9) rfl d_PC_addBetween_60 ?_
  refine lv_iload hx hb d_PC_addBetween_63 (lv_at hl 3 rfl) ?_
  refine lv_iload hx hb d_PC_addBetween_65 (lv_at hl 2 rfl) ?_
  refine lv_lload hx hb d_PC_addBetween_67 (lv_at hl 1 rfl) ?_
  refine lv_lload hx hb d_PC_addBetween_69 (lv_at hl 0 rfl) ?_
  refine lv_lload hx hb d_PC_addBetween_71 (lv_at hl 1 rfl) ?_
  refine lv_lsub hx hb d_PC_addBetween_73 ?_
  refine lv_lload hx hb d_PC_addBetween_74 (lv_at hl 5 rfl) ?_
  refine lv_lmul hx hb d_PC_addBetween_76 ?_
  refine lv_lload hx hb d_PC_addBetween_77 (lv_at hl 5 rfl) ?_
  refine lv_lload hx hb d_PC_addBetween_79 (lv_at hl 4 rfl) ?_
  refine lv_lsub hx hb d_PC_addBetween_81 ?_
  refine vp_callSl (va_Run.run (va_runS (As := [.long ((r_14 - r_13) * r_1), .long (r_1 - r_2)]) (rest := [.long r_13, .int 2, .int r_3, .ref sp]) ⟨hx, hb, hml, hown, hts⟩ (c_PC_div l dC dI cJ cI ((r_14 - r_13) * r_1) (r_1 - r_2)) (va_cwS 2 hts (gd_S wd_148 wd_149 wd_33 wd_150) rfl rfl rfl (by decide +kernel) ⟨Nat.le_of_ble_eq_true rfl, Nat.le_of_ble_eq_true rfl⟩) ⟨fb_ro, pre_ro hK hN va_nil⟩ rfl rfl hl.1 rfl (lv_room (Nat.le_of_ble_eq_true rfl)) d_PC_addBetween_82 ⟨Nat.le_of_ble_eq_true rfl, Nat.le_of_ble_eq_true rfl⟩)) (fun r_15 er_15 => ?_)
  have er_15 : r_15 = f_PC_div ((r_14 - r_13) * r_1) (r_1 - r_2) := er_15
  refine lv_ladd hx hb d_PC_addBetween_85 ?_
  have hPc := hP.sub (ws' := [(sp, .inr (1, [.ref spa, .int (f_Ri_addRow_0_1 spn)])), (spa, .inl (cJ, 114, .inr (.inl (f_Ri_put_1 (f_Ri_addRow_0_1 spn) (f_Ri_put_1 (f_Ri_addRow_0_1 spn) spf r_3 0 (r_5 + r_7)) r_3 1 (r_9 + r_11)))))]) [5, 6] rfl
  have hDc := hD.sub (ws' := [(sp, .inr (1, [.ref spa, .int (f_Ri_addRow_0_1 spn)])), (spa, .inl (cJ, 114, .inr (.inl (f_Ri_put_1 (f_Ri_addRow_0_1 spn) (f_Ri_put_1 (f_Ri_addRow_0_1 spn) spf r_3 0 (r_5 + r_7)) r_3 1 (r_9 + r_11)))))]) [5, 6] (by decide) rfl
  have hFc := va_free (wc := [(sp, .inr (1, [.ref spa, .int (f_Ri_addRow_0_1 spn)])), (spa, .inl (cJ, 114, .inr (.inl (f_Ri_put_1 (f_Ri_addRow_0_1 spn) (f_Ri_put_1 (f_Ri_addRow_0_1 spn) spf r_3 0 (r_5 + r_7)) r_3 1 (r_9 + r_11)))))]) hD hS hA [5, 6] rfl
  refine va_callv (va_runVN (As := [.int r_3, .int 2, .long (r_13 + r_15)]) (rest := []) ⟨hx, hb, hml, hown, hts⟩ (c_Ri_put l dC dI cJ cI H.size sp spa (f_Ri_addRow_0_1 spn) (f_Ri_put_1 (f_Ri_addRow_0_1 spn) (f_Ri_put_1 (f_Ri_addRow_0_1 spn) spf r_3 0 (r_5 + r_7)) r_3 1 (r_9 + r_11)) r_3 2 (r_13 + r_15)) (⟨va_cnB 3 hts (gd_0 wd_113) rfl rfl rfl (hN _ nw_7) (hts _ (mw wd_35)) (by decide +kernel) ⟨Nat.le_of_ble_eq_true rfl, Nat.le_of_ble_eq_true rfl⟩, (hts _ (mw wd_112)), (hts _ (mw wd_2))⟩) ⟨fb_rw, va_recv hK hPc (ci := 1) (q0 := 0) rfl rfl, pre_rw hK hN hPc hDc⟩ rfl rfl hl.1 rfl (lv_room (Nat.le_of_ble_eq_true rfl)) d_PC_addBetween_86 ⟨Nat.le_of_ble_eq_true rfl, Nat.le_of_ble_eq_true rfl⟩) hS (fun q _ h => hFc q h) hFc (fun u t H locs ht hvm hw hB hz1 hk1 hS => ?_)
  obtain ⟨hP1, hD1⟩ := hB
  rw [ht] at hP1
  obtain ⟨hP, hD⟩ := va_join (wr := [(ob, .inr (0, [.int wi, .int hi, .int fo, .ref gi, .ref ke, .ref sp, .ref pi, .ref fa])), (gi, .inr (1, [.ref gia, .int gin])), (gia, .inl (cJ, 114, .inr (.inl gif))), (ke, .inr (1, [.ref kea, .int ken])), (kea, .inl (cJ, 114, .inr (.inl kef))), (pi, .inr (1, [.ref pia, .int pin])), (pia, .inl (cJ, 114, .inr (.inl pif))), (fa, .inr (2, [.ref fas, .ref fat, .ref faa, .int fan])), (fas, .inl (cI, 17, .inl faS)), (fat, .inl (cI, 17, .inl faT)), (faa, .inl (cI, 17, .inl faA))]) (w1 := [(sp, .inr (1, [.ref spa, .int (f_Ri_addRow_0_1 spn)])), (spa, .inl (cJ, 114, .inr (.inl (f_Ri_put_1 (f_Ri_addRow_0_1 spn) (f_Ri_put_1 (f_Ri_addRow_0_1 spn) (f_Ri_put_1 (f_Ri_addRow_0_1 spn) spf r_3 0 (r_5 + r_7)) r_3 1 (r_9 + r_11)) r_3 2 (r_13 + r_15)))))]) hP hD [5, 6] [0, 1, 2, 3, 4, 7, 8, 9, 10, 11, 12] rfl rfl (by decide) (by decide) hk1 hFc hP1 hD1
  have hP : va_P (dC, dI) cls4 [(ob, .inr (0, [.int wi, .int hi, .int fo, .ref gi, .ref ke, .ref sp, .ref pi, .ref fa])), (gi, .inr (1, [.ref gia, .int gin])), (gia, .inl (cJ, 114, .inr (.inl gif))), (ke, .inr (1, [.ref kea, .int ken])), (kea, .inl (cJ, 114, .inr (.inl kef))), (sp, .inr (1, [.ref spa, .int (f_Ri_addRow_0_1 spn)])), (spa, .inl (cJ, 114, .inr (.inl (f_Ri_put_1 (f_Ri_addRow_0_1 spn) (f_Ri_put_1 (f_Ri_addRow_0_1 spn) (f_Ri_put_1 (f_Ri_addRow_0_1 spn) spf r_3 0 (r_5 + r_7)) r_3 1 (r_9 + r_11)) r_3 2 (r_13 + r_15))))), (pi, .inr (1, [.ref pia, .int pin])), (pia, .inl (cJ, 114, .inr (.inl pif))), (fa, .inr (2, [.ref fas, .ref fat, .ref faa, .int fan])), (fas, .inl (cI, 17, .inl faS)), (fat, .inl (cI, 17, .inl faT)), (faa, .inl (cI, 17, .inl faA))] H := hP.sub [0, 1, 2, 3, 4, 11, 12, 5, 6, 7, 8, 9, 10] rfl
  have hD : va_D A [(ob, .inr (0, [.int wi, .int hi, .int fo, .ref gi, .ref ke, .ref sp, .ref pi, .ref fa])), (gi, .inr (1, [.ref gia, .int gin])), (gia, .inl (cJ, 114, .inr (.inl gif))), (ke, .inr (1, [.ref kea, .int ken])), (kea, .inl (cJ, 114, .inr (.inl kef))), (sp, .inr (1, [.ref spa, .int (f_Ri_addRow_0_1 spn)])), (spa, .inl (cJ, 114, .inr (.inl (f_Ri_put_1 (f_Ri_addRow_0_1 spn) (f_Ri_put_1 (f_Ri_addRow_0_1 spn) (f_Ri_put_1 (f_Ri_addRow_0_1 spn) spf r_3 0 (r_5 + r_7)) r_3 1 (r_9 + r_11)) r_3 2 (r_13 + r_15))))), (pi, .inr (1, [.ref pia, .int pin])), (pia, .inl (cJ, 114, .inr (.inl pif))), (fa, .inr (2, [.ref fas, .ref fat, .ref faa, .int fan])), (fas, .inl (cI, 17, .inl faS)), (fat, .inl (cI, 17, .inl faT)), (faa, .inl (cI, 17, .inl faA))] := hD.sub [0, 1, 2, 3, 4, 11, 12, 5, 6, 7, 8, 9, 10] (by decide) rfl
  refine lv_iinc (v := 3) (lv' := [(9, .int 3), (12, .long r_14), (10, .long r_13), (8, .int r_3), (6, .long r_2), (4, .long r_1), (0, .ref ob), (1, .int st), (2, .int le), (3, .int sd)]) hx hb d_PC_addBetween_89 hl (k := 2) rfl (by decide) (by decide) rfl (fun ls hl => ?_)
  refine lv_goto (tgt := 28) hx hb d_PC_addBetween_92 (by decide) ?_
  refine lv_iload hx hb d_PC_addBetween_28 (lv_at hl 0 rfl) ?_
  refine lv_bipush (v := 6) hx hb d_PC_addBetween_30 (by decide) ?_
  refine lv_icmp_ge (tgt := 95) hx hb d_PC_addBetween_32 (by decide) (fun c_16 => absurd c_16 (by decide)) (fun _ => ?_)
  refine lv_aload_n hx hb d_PC_addBetween_35 rfl (lv_at hl 6 rfl) ?_
  refine va_get (D := (dC, dI)) (ci := 0) (v := .ref ke) (C := R_PC) (T := F_PC) (N := 8) hx hb hts (fun w h => mw (i_PC w h)) hown hK hP 0 rfl rfl 4 (by decide) (hts _ (mw wd_85)) (fun _ h9 => h9) rfl d_PC_addBetween_36 ?_
  refine lv_iload_n hx hb d_PC_addBetween_39 rfl (lv_at hl 7 rfl) ?_
  refine lv_iload hx hb d_PC_addBetween_40 (lv_at hl 0 rfl) ?_
  have hPc := hP.sub (ws' := [(ke, .inr (1, [.ref kea, .int ken])), (kea, .inl (cJ, 114, .inr (.inl kef)))]) [3, 4] rfl
  refine vp_callSl (va_Run.run (va_runVN (As := [.int st, .int 3]) (rest := []) ⟨hx, hb, hml, hown, hts⟩ (c_Ri_at l dC dI cJ cI ke kea ken kef st 3) (⟨va_cnB 2 hts (gd_0 wd_136) rfl rfl rfl (hN _ nw_10) (hts _ (mw wd_35)) (by decide +kernel) ⟨Nat.le_of_ble_eq_true rfl, Nat.le_of_ble_eq_true rfl⟩, (hts _ (mw wd_135)), (hts _ (mw wd_5))⟩) ⟨fb_ro, va_recv hK hPc (ci := 1) (q0 := 0) rfl rfl, pre_ro hK hN hPc⟩ rfl rfl hl.1 rfl (lv_room (Nat.le_of_ble_eq_true rfl)) d_PC_addBetween_42 ⟨Nat.le_of_ble_eq_true rfl, Nat.le_of_ble_eq_true rfl⟩)) (fun r_17 er_17 => ?_)
  have er_17 : r_17 = f_Ri_at ken kef st 3 := er_17
  refine lv_lstore (lv' := [(10, .long r_17), (9, .int 3), (12, .long r_14), (8, .int r_3), (6, .long r_2), (4, .long r_1), (0, .ref ob), (1, .int st), (2, .int le), (3, .int sd)]) hx hb d_PC_addBetween_45 hl (by decide) rfl (fun ls hl => ?_)
  refine lv_aload_n hx hb d_PC_addBetween_47 rfl (lv_at hl 6 rfl) ?_
  refine va_get (D := (dC, dI)) (ci := 0) (v := .ref ke) (C := R_PC) (T := F_PC) (N := 8) hx hb hts (fun w h => mw (i_PC w h)) hown hK hP 0 rfl rfl 4 (by decide) (hts _ (mw wd_85)) (fun _ h9 => h9) rfl d_PC_addBetween_48 ?_
  refine lv_iload_n hx hb d_PC_addBetween_51 rfl (lv_at hl 8 rfl) ?_
  refine lv_iload hx hb d_PC_addBetween_52 (lv_at hl 1 rfl) ?_
  have hPc := hP.sub (ws' := [(ke, .inr (1, [.ref kea, .int ken])), (kea, .inl (cJ, 114, .inr (.inl kef)))]) [3, 4] rfl
  refine vp_callSl (va_Run.run (va_runVN (As := [.int le, .int 3]) (rest := []) ⟨hx, hb, hml, hown, hts⟩ (c_Ri_at l dC dI cJ cI ke kea ken kef le 3) (⟨va_cnB 2 hts (gd_0 wd_136) rfl rfl rfl (hN _ nw_10) (hts _ (mw wd_35)) (by decide +kernel) ⟨Nat.le_of_ble_eq_true rfl, Nat.le_of_ble_eq_true rfl⟩, (hts _ (mw wd_135)), (hts _ (mw wd_5))⟩) ⟨fb_ro, va_recv hK hPc (ci := 1) (q0 := 0) rfl rfl, pre_ro hK hN hPc⟩ rfl rfl hl.1 rfl (lv_room (Nat.le_of_ble_eq_true rfl)) d_PC_addBetween_54 ⟨Nat.le_of_ble_eq_true rfl, Nat.le_of_ble_eq_true rfl⟩)) (fun r_18 er_18 => ?_)
  have er_18 : r_18 = f_Ri_at ken kef le 3 := er_18
  refine lv_lstore (lv' := [(12, .long r_18), (10, .long r_17), (9, .int 3), (8, .int r_3), (6, .long r_2), (4, .long r_1), (0, .ref ob), (1, .int st), (2, .int le), (3, .int sd)]) hx hb d_PC_addBetween_57 hl (by decide) rfl (fun ls hl => ?_)
  refine lv_aload_n hx hb d_PC_addBetween_59 rfl (lv_at hl 6 rfl) ?_
  refine va_get (D := (dC, dI)) (ci := 0) (v := .ref sp) (C := R_PC) (T := F_PC) (N := 8) hx hb hts (fun w h => mw (i_PC w h)) hown hK hP 0 rfl rfl 5 (by decide) (hts _ (mw wd_86)) (fun _ h9 => h9) rfl d_PC_addBetween_60 ?_
  refine lv_iload hx hb d_PC_addBetween_63 (lv_at hl 3 rfl) ?_
  refine lv_iload hx hb d_PC_addBetween_65 (lv_at hl 2 rfl) ?_
  refine lv_lload hx hb d_PC_addBetween_67 (lv_at hl 1 rfl) ?_
  refine lv_lload hx hb d_PC_addBetween_69 (lv_at hl 0 rfl) ?_
  refine lv_lload hx hb d_PC_addBetween_71 (lv_at hl 1 rfl) ?_
  refine lv_lsub hx hb d_PC_addBetween_73 ?_
  refine lv_lload hx hb d_PC_addBetween_74 (lv_at hl 5 rfl) ?_
  refine lv_lmul hx hb d_PC_addBetween_76 ?_
  refine lv_lload hx hb d_PC_addBetween_77 (lv_at hl 5 rfl) ?_
  refine lv_lload hx hb d_PC_addBetween_79 (lv_at hl 4 rfl) ?_
  refine lv_lsub hx hb d_PC_addBetween_81 ?_
  refine vp_callSl (va_Run.run (va_runS (As := [.long ((r_18 - r_17) * r_1), .long (r_1 - r_2)]) (rest := [.long r_17, .int 3, .int r_3, .ref sp]) ⟨hx, hb, hml, hown, hts⟩ (c_PC_div l dC dI cJ cI ((r_18 - r_17) * r_1) (r_1 - r_2)) (va_cwS 2 hts (gd_S wd_148 wd_149 wd_33 wd_150) rfl rfl rfl (by decide +kernel) ⟨Nat.le_of_ble_eq_true rfl, Nat.le_of_ble_eq_true rfl⟩) ⟨fb_ro, pre_ro hK hN va_nil⟩ rfl rfl hl.1 rfl (lv_room (Nat.le_of_ble_eq_true rfl)) d_PC_addBetween_82 ⟨Nat.le_of_ble_eq_true rfl, Nat.le_of_ble_eq_true rfl⟩)) (fun r_19 er_19 => ?_)
  have er_19 : r_19 = f_PC_div ((r_18 - r_17) * r_1) (r_1 - r_2) := er_19
  refine lv_ladd hx hb d_PC_addBetween_85 ?_
  have hPc := hP.sub (ws' := [(sp, .inr (1, [.ref spa, .int (f_Ri_addRow_0_1 spn)])), (spa, .inl (cJ, 114, .inr (.inl (f_Ri_put_1 (f_Ri_addRow_0_1 spn) (f_Ri_put_1 (f_Ri_addRow_0_1 spn) (f_Ri_put_1 (f_Ri_addRow_0_1 spn) spf r_3 0 (r_5 + r_7)) r_3 1 (r_9 + r_11)) r_3 2 (r_13 + r_15)))))]) [5, 6] rfl
  have hDc := hD.sub (ws' := [(sp, .inr (1, [.ref spa, .int (f_Ri_addRow_0_1 spn)])), (spa, .inl (cJ, 114, .inr (.inl (f_Ri_put_1 (f_Ri_addRow_0_1 spn) (f_Ri_put_1 (f_Ri_addRow_0_1 spn) (f_Ri_put_1 (f_Ri_addRow_0_1 spn) spf r_3 0 (r_5 + r_7)) r_3 1 (r_9 + r_11)) r_3 2 (r_13 + r_15)))))]) [5, 6] (by decide) rfl
  have hFc := va_free (wc := [(sp, .inr (1, [.ref spa, .int (f_Ri_addRow_0_1 spn)])), (spa, .inl (cJ, 114, .inr (.inl (f_Ri_put_1 (f_Ri_addRow_0_1 spn) (f_Ri_put_1 (f_Ri_addRow_0_1 spn) (f_Ri_put_1 (f_Ri_addRow_0_1 spn) spf r_3 0 (r_5 + r_7)) r_3 1 (r_9 + r_11)) r_3 2 (r_13 + r_15)))))]) hD hS hA [5, 6] rfl
  refine va_callv (va_runVN (As := [.int r_3, .int 3, .long (r_17 + r_19)]) (rest := []) ⟨hx, hb, hml, hown, hts⟩ (c_Ri_put l dC dI cJ cI H.size sp spa (f_Ri_addRow_0_1 spn) (f_Ri_put_1 (f_Ri_addRow_0_1 spn) (f_Ri_put_1 (f_Ri_addRow_0_1 spn) (f_Ri_put_1 (f_Ri_addRow_0_1 spn) spf r_3 0 (r_5 + r_7)) r_3 1 (r_9 + r_11)) r_3 2 (r_13 + r_15)) r_3 3 (r_17 + r_19)) (⟨va_cnB 3 hts (gd_0 wd_113) rfl rfl rfl (hN _ nw_7) (hts _ (mw wd_35)) (by decide +kernel) ⟨Nat.le_of_ble_eq_true rfl, Nat.le_of_ble_eq_true rfl⟩, (hts _ (mw wd_112)), (hts _ (mw wd_2))⟩) ⟨fb_rw, va_recv hK hPc (ci := 1) (q0 := 0) rfl rfl, pre_rw hK hN hPc hDc⟩ rfl rfl hl.1 rfl (lv_room (Nat.le_of_ble_eq_true rfl)) d_PC_addBetween_86 ⟨Nat.le_of_ble_eq_true rfl, Nat.le_of_ble_eq_true rfl⟩) hS (fun q _ h => hFc q h) hFc (fun u t H locs ht hvm hw hB hz1 hk1 hS => ?_)
  obtain ⟨hP1, hD1⟩ := hB
  rw [ht] at hP1
  obtain ⟨hP, hD⟩ := va_join (wr := [(ob, .inr (0, [.int wi, .int hi, .int fo, .ref gi, .ref ke, .ref sp, .ref pi, .ref fa])), (gi, .inr (1, [.ref gia, .int gin])), (gia, .inl (cJ, 114, .inr (.inl gif))), (ke, .inr (1, [.ref kea, .int ken])), (kea, .inl (cJ, 114, .inr (.inl kef))), (pi, .inr (1, [.ref pia, .int pin])), (pia, .inl (cJ, 114, .inr (.inl pif))), (fa, .inr (2, [.ref fas, .ref fat, .ref faa, .int fan])), (fas, .inl (cI, 17, .inl faS)), (fat, .inl (cI, 17, .inl faT)), (faa, .inl (cI, 17, .inl faA))]) (w1 := [(sp, .inr (1, [.ref spa, .int (f_Ri_addRow_0_1 spn)])), (spa, .inl (cJ, 114, .inr (.inl (f_Ri_put_1 (f_Ri_addRow_0_1 spn) (f_Ri_put_1 (f_Ri_addRow_0_1 spn) (f_Ri_put_1 (f_Ri_addRow_0_1 spn) (f_Ri_put_1 (f_Ri_addRow_0_1 spn) spf r_3 0 (r_5 + r_7)) r_3 1 (r_9 + r_11)) r_3 2 (r_13 + r_15)) r_3 3 (r_17 + r_19)))))]) hP hD [5, 6] [0, 1, 2, 3, 4, 7, 8, 9, 10, 11, 12] rfl rfl (by decide) (by decide) hk1 hFc hP1 hD1
  have hP : va_P (dC, dI) cls4 [(ob, .inr (0, [.int wi, .int hi, .int fo, .ref gi, .ref ke, .ref sp, .ref pi, .ref fa])), (gi, .inr (1, [.ref gia, .int gin])), (gia, .inl (cJ, 114, .inr (.inl gif))), (ke, .inr (1, [.ref kea, .int ken])), (kea, .inl (cJ, 114, .inr (.inl kef))), (sp, .inr (1, [.ref spa, .int (f_Ri_addRow_0_1 spn)])), (spa, .inl (cJ, 114, .inr (.inl (f_Ri_put_1 (f_Ri_addRow_0_1 spn) (f_Ri_put_1 (f_Ri_addRow_0_1 spn) (f_Ri_put_1 (f_Ri_addRow_0_1 spn) (f_Ri_put_1 (f_Ri_addRow_0_1 spn) spf r_3 0 (r_5 + r_7)) r_3 1 (r_9 + r_11)) r_3 2 (r_13 + r_15)) r_3 3 (r_17 + r_19))))), (pi, .inr (1, [.ref pia, .int pin])), (pia, .inl (cJ, 114, .inr (.inl pif))), (fa, .inr (2, [.ref fas, .ref fat, .ref faa, .int fan])), (fas, .inl (cI, 17, .inl faS)), (fat, .inl (cI, 17, .inl faT)), (faa, .inl (cI, 17, .inl faA))] H := hP.sub [0, 1, 2, 3, 4, 11, 12, 5, 6, 7, 8, 9, 10] rfl
  have hD : va_D A [(ob, .inr (0, [.int wi, .int hi, .int fo, .ref gi, .ref ke, .ref sp, .ref pi, .ref fa])), (gi, .inr (1, [.ref gia, .int gin])), (gia, .inl (cJ, 114, .inr (.inl gif))), (ke, .inr (1, [.ref kea, .int ken])), (kea, .inl (cJ, 114, .inr (.inl kef))), (sp, .inr (1, [.ref spa, .int (f_Ri_addRow_0_1 spn)])), (spa, .inl (cJ, 114, .inr (.inl (f_Ri_put_1 (f_Ri_addRow_0_1 spn) (f_Ri_put_1 (f_Ri_addRow_0_1 spn) (f_Ri_put_1 (f_Ri_addRow_0_1 spn) (f_Ri_put_1 (f_Ri_addRow_0_1 spn) spf r_3 0 (r_5 + r_7)) r_3 1 (r_9 + r_11)) r_3 2 (r_13 + r_15)) r_3 3 (r_17 + r_19))))), (pi, .inr (1, [.ref pia, .int pin])), (pia, .inl (cJ, 114, .inr (.inl pif))), (fa, .inr (2, [.ref fas, .ref fat, .ref faa, .int fan])), (fas, .inl (cI, 17, .inl faS)), (fat, .inl (cI, 17, .inl faT)), (faa, .inl (cI, 17, .inl faA))] := hD.sub [0, 1, 2, 3, 4, 11, 12, 5, 6, 7, 8, 9, 10] (by decide) rfl
  refine lv_iinc (v := 4) (lv' := [(9, .int 4), (12, .long r_18), (10, .long r_17), (8, .int r_3), (6, .long r_2), (4, .long r_1), (0, .ref ob), (1, .int st), (2, .int le), (3, .int sd)]) hx hb d_PC_addBetween_89 hl (k := 2) rfl (by decide) (by decide) rfl (fun ls hl => ?_)
  refine lv_goto (tgt := 28) hx hb d_PC_addBetween_92 (by decide) ?_
  refine lv_iload hx hb d_PC_addBetween_28 (lv_at hl 0 rfl) ?_
  refine lv_bipush (v := 6) hx hb d_PC_addBetween_30 (by decide) ?_
  refine lv_icmp_ge (tgt := 95) hx hb d_PC_addBetween_32 (by decide) (fun c_20 => absurd c_20 (by decide)) (fun _ => ?_)
  refine lv_aload_n hx hb d_PC_addBetween_35 rfl (lv_at hl 6 rfl) ?_
  refine va_get (D := (dC, dI)) (ci := 0) (v := .ref ke) (C := R_PC) (T := F_PC) (N := 8) hx hb hts (fun w h => mw (i_PC w h)) hown hK hP 0 rfl rfl 4 (by decide) (hts _ (mw wd_85)) (fun _ h9 => h9) rfl d_PC_addBetween_36 ?_
  refine lv_iload_n hx hb d_PC_addBetween_39 rfl (lv_at hl 7 rfl) ?_
  refine lv_iload hx hb d_PC_addBetween_40 (lv_at hl 0 rfl) ?_
  have hPc := hP.sub (ws' := [(ke, .inr (1, [.ref kea, .int ken])), (kea, .inl (cJ, 114, .inr (.inl kef)))]) [3, 4] rfl
  refine vp_callSl (va_Run.run (va_runVN (As := [.int st, .int 4]) (rest := []) ⟨hx, hb, hml, hown, hts⟩ (c_Ri_at l dC dI cJ cI ke kea ken kef st 4) (⟨va_cnB 2 hts (gd_0 wd_136) rfl rfl rfl (hN _ nw_10) (hts _ (mw wd_35)) (by decide +kernel) ⟨Nat.le_of_ble_eq_true rfl, Nat.le_of_ble_eq_true rfl⟩, (hts _ (mw wd_135)), (hts _ (mw wd_5))⟩) ⟨fb_ro, va_recv hK hPc (ci := 1) (q0 := 0) rfl rfl, pre_ro hK hN hPc⟩ rfl rfl hl.1 rfl (lv_room (Nat.le_of_ble_eq_true rfl)) d_PC_addBetween_42 ⟨Nat.le_of_ble_eq_true rfl, Nat.le_of_ble_eq_true rfl⟩)) (fun r_21 er_21 => ?_)
  have er_21 : r_21 = f_Ri_at ken kef st 4 := er_21
  refine lv_lstore (lv' := [(10, .long r_21), (9, .int 4), (12, .long r_18), (8, .int r_3), (6, .long r_2), (4, .long r_1), (0, .ref ob), (1, .int st), (2, .int le), (3, .int sd)]) hx hb d_PC_addBetween_45 hl (by decide) rfl (fun ls hl => ?_)
  refine lv_aload_n hx hb d_PC_addBetween_47 rfl (lv_at hl 6 rfl) ?_
  refine va_get (D := (dC, dI)) (ci := 0) (v := .ref ke) (C := R_PC) (T := F_PC) (N := 8) hx hb hts (fun w h => mw (i_PC w h)) hown hK hP 0 rfl rfl 4 (by decide) (hts _ (mw wd_85)) (fun _ h9 => h9) rfl d_PC_addBetween_48 ?_
  refine lv_iload_n hx hb d_PC_addBetween_51 rfl (lv_at hl 8 rfl) ?_
  refine lv_iload hx hb d_PC_addBetween_52 (lv_at hl 1 rfl) ?_
  have hPc := hP.sub (ws' := [(ke, .inr (1, [.ref kea, .int ken])), (kea, .inl (cJ, 114, .inr (.inl kef)))]) [3, 4] rfl
  refine vp_callSl (va_Run.run (va_runVN (As := [.int le, .int 4]) (rest := []) ⟨hx, hb, hml, hown, hts⟩ (c_Ri_at l dC dI cJ cI ke kea ken kef le 4) (⟨va_cnB 2 hts (gd_0 wd_136) rfl rfl rfl (hN _ nw_10) (hts _ (mw wd_35)) (by decide +kernel) ⟨Nat.le_of_ble_eq_true rfl, Nat.le_of_ble_eq_true rfl⟩, (hts _ (mw wd_135)), (hts _ (mw wd_5))⟩) ⟨fb_ro, va_recv hK hPc (ci := 1) (q0 := 0) rfl rfl, pre_ro hK hN hPc⟩ rfl rfl hl.1 rfl (lv_room (Nat.le_of_ble_eq_true rfl)) d_PC_addBetween_54 ⟨Nat.le_of_ble_eq_true rfl, Nat.le_of_ble_eq_true rfl⟩)) (fun r_22 er_22 => ?_)
  have er_22 : r_22 = f_Ri_at ken kef le 4 := er_22
  refine lv_lstore (lv' := [(12, .long r_22), (10, .long r_21), (9, .int 4), (8, .int r_3), (6, .long r_2), (4, .long r_1), (0, .ref ob), (1, .int st), (2, .int le), (3, .int sd)]) hx hb d_PC_addBetween_57 hl (by decide) rfl (fun ls hl => ?_)
  refine lv_aload_n hx hb d_PC_addBetween_59 rfl (lv_at hl 6 rfl) ?_
  refine va_get (D := (dC, dI)) (ci := 0) (v := .ref sp) (C := R_PC) (T := F_PC) (N := 8) hx hb hts (fun w h => mw (i_PC w h)) hown hK hP 0 rfl rfl 5 (by decide) (hts _ (mw wd_86)) (fun _ h9 => h9) rfl d_PC_addBetween_60 ?_
  refine lv_iload hx hb d_PC_addBetween_63 (lv_at hl 3 rfl) ?_
  refine lv_iload hx hb d_PC_addBetween_65 (lv_at hl 2 rfl) ?_
  refine lv_lload hx hb d_PC_addBetween_67 (lv_at hl 1 rfl) ?_
  refine lv_lload hx hb d_PC_addBetween_69 (lv_at hl 0 rfl) ?_
  refine lv_lload hx hb d_PC_addBetween_71 (lv_at hl 1 rfl) ?_
  refine lv_lsub hx hb d_PC_addBetween_73 ?_
  refine lv_lload hx hb d_PC_addBetween_74 (lv_at hl 5 rfl) ?_
  refine lv_lmul hx hb d_PC_addBetween_76 ?_
  refine lv_lload hx hb d_PC_addBetween_77 (lv_at hl 5 rfl) ?_
  refine lv_lload hx hb d_PC_addBetween_79 (lv_at hl 4 rfl) ?_
  refine lv_lsub hx hb d_PC_addBetween_81 ?_
  refine vp_callSl (va_Run.run (va_runS (As := [.long ((r_22 - r_21) * r_1), .long (r_1 - r_2)]) (rest := [.long r_21, .int 4, .int r_3, .ref sp]) ⟨hx, hb, hml, hown, hts⟩ (c_PC_div l dC dI cJ cI ((r_22 - r_21) * r_1) (r_1 - r_2)) (va_cwS 2 hts (gd_S wd_148 wd_149 wd_33 wd_150) rfl rfl rfl (by decide +kernel) ⟨Nat.le_of_ble_eq_true rfl, Nat.le_of_ble_eq_true rfl⟩) ⟨fb_ro, pre_ro hK hN va_nil⟩ rfl rfl hl.1 rfl (lv_room (Nat.le_of_ble_eq_true rfl)) d_PC_addBetween_82 ⟨Nat.le_of_ble_eq_true rfl, Nat.le_of_ble_eq_true rfl⟩)) (fun r_23 er_23 => ?_)
  have er_23 : r_23 = f_PC_div ((r_22 - r_21) * r_1) (r_1 - r_2) := er_23
  refine lv_ladd hx hb d_PC_addBetween_85 ?_
  have hPc := hP.sub (ws' := [(sp, .inr (1, [.ref spa, .int (f_Ri_addRow_0_1 spn)])), (spa, .inl (cJ, 114, .inr (.inl (f_Ri_put_1 (f_Ri_addRow_0_1 spn) (f_Ri_put_1 (f_Ri_addRow_0_1 spn) (f_Ri_put_1 (f_Ri_addRow_0_1 spn) (f_Ri_put_1 (f_Ri_addRow_0_1 spn) spf r_3 0 (r_5 + r_7)) r_3 1 (r_9 + r_11)) r_3 2 (r_13 + r_15)) r_3 3 (r_17 + r_19)))))]) [5, 6] rfl
  have hDc := hD.sub (ws' := [(sp, .inr (1, [.ref spa, .int (f_Ri_addRow_0_1 spn)])), (spa, .inl (cJ, 114, .inr (.inl (f_Ri_put_1 (f_Ri_addRow_0_1 spn) (f_Ri_put_1 (f_Ri_addRow_0_1 spn) (f_Ri_put_1 (f_Ri_addRow_0_1 spn) (f_Ri_put_1 (f_Ri_addRow_0_1 spn) spf r_3 0 (r_5 + r_7)) r_3 1 (r_9 + r_11)) r_3 2 (r_13 + r_15)) r_3 3 (r_17 + r_19)))))]) [5, 6] (by decide) rfl
  have hFc := va_free (wc := [(sp, .inr (1, [.ref spa, .int (f_Ri_addRow_0_1 spn)])), (spa, .inl (cJ, 114, .inr (.inl (f_Ri_put_1 (f_Ri_addRow_0_1 spn) (f_Ri_put_1 (f_Ri_addRow_0_1 spn) (f_Ri_put_1 (f_Ri_addRow_0_1 spn) (f_Ri_put_1 (f_Ri_addRow_0_1 spn) spf r_3 0 (r_5 + r_7)) r_3 1 (r_9 + r_11)) r_3 2 (r_13 + r_15)) r_3 3 (r_17 + r_19)))))]) hD hS hA [5, 6] rfl
  refine va_callv (va_runVN (As := [.int r_3, .int 4, .long (r_21 + r_23)]) (rest := []) ⟨hx, hb, hml, hown, hts⟩ (c_Ri_put l dC dI cJ cI H.size sp spa (f_Ri_addRow_0_1 spn) (f_Ri_put_1 (f_Ri_addRow_0_1 spn) (f_Ri_put_1 (f_Ri_addRow_0_1 spn) (f_Ri_put_1 (f_Ri_addRow_0_1 spn) (f_Ri_put_1 (f_Ri_addRow_0_1 spn) spf r_3 0 (r_5 + r_7)) r_3 1 (r_9 + r_11)) r_3 2 (r_13 + r_15)) r_3 3 (r_17 + r_19)) r_3 4 (r_21 + r_23)) (⟨va_cnB 3 hts (gd_0 wd_113) rfl rfl rfl (hN _ nw_7) (hts _ (mw wd_35)) (by decide +kernel) ⟨Nat.le_of_ble_eq_true rfl, Nat.le_of_ble_eq_true rfl⟩, (hts _ (mw wd_112)), (hts _ (mw wd_2))⟩) ⟨fb_rw, va_recv hK hPc (ci := 1) (q0 := 0) rfl rfl, pre_rw hK hN hPc hDc⟩ rfl rfl hl.1 rfl (lv_room (Nat.le_of_ble_eq_true rfl)) d_PC_addBetween_86 ⟨Nat.le_of_ble_eq_true rfl, Nat.le_of_ble_eq_true rfl⟩) hS (fun q _ h => hFc q h) hFc (fun u t H locs ht hvm hw hB hz1 hk1 hS => ?_)
  obtain ⟨hP1, hD1⟩ := hB
  rw [ht] at hP1
  obtain ⟨hP, hD⟩ := va_join (wr := [(ob, .inr (0, [.int wi, .int hi, .int fo, .ref gi, .ref ke, .ref sp, .ref pi, .ref fa])), (gi, .inr (1, [.ref gia, .int gin])), (gia, .inl (cJ, 114, .inr (.inl gif))), (ke, .inr (1, [.ref kea, .int ken])), (kea, .inl (cJ, 114, .inr (.inl kef))), (pi, .inr (1, [.ref pia, .int pin])), (pia, .inl (cJ, 114, .inr (.inl pif))), (fa, .inr (2, [.ref fas, .ref fat, .ref faa, .int fan])), (fas, .inl (cI, 17, .inl faS)), (fat, .inl (cI, 17, .inl faT)), (faa, .inl (cI, 17, .inl faA))]) (w1 := [(sp, .inr (1, [.ref spa, .int (f_Ri_addRow_0_1 spn)])), (spa, .inl (cJ, 114, .inr (.inl (f_Ri_put_1 (f_Ri_addRow_0_1 spn) (f_Ri_put_1 (f_Ri_addRow_0_1 spn) (f_Ri_put_1 (f_Ri_addRow_0_1 spn) (f_Ri_put_1 (f_Ri_addRow_0_1 spn) (f_Ri_put_1 (f_Ri_addRow_0_1 spn) spf r_3 0 (r_5 + r_7)) r_3 1 (r_9 + r_11)) r_3 2 (r_13 + r_15)) r_3 3 (r_17 + r_19)) r_3 4 (r_21 + r_23)))))]) hP hD [5, 6] [0, 1, 2, 3, 4, 7, 8, 9, 10, 11, 12] rfl rfl (by decide) (by decide) hk1 hFc hP1 hD1
  have hP : va_P (dC, dI) cls4 [(ob, .inr (0, [.int wi, .int hi, .int fo, .ref gi, .ref ke, .ref sp, .ref pi, .ref fa])), (gi, .inr (1, [.ref gia, .int gin])), (gia, .inl (cJ, 114, .inr (.inl gif))), (ke, .inr (1, [.ref kea, .int ken])), (kea, .inl (cJ, 114, .inr (.inl kef))), (sp, .inr (1, [.ref spa, .int (f_Ri_addRow_0_1 spn)])), (spa, .inl (cJ, 114, .inr (.inl (f_Ri_put_1 (f_Ri_addRow_0_1 spn) (f_Ri_put_1 (f_Ri_addRow_0_1 spn) (f_Ri_put_1 (f_Ri_addRow_0_1 spn) (f_Ri_put_1 (f_Ri_addRow_0_1 spn) (f_Ri_put_1 (f_Ri_addRow_0_1 spn) spf r_3 0 (r_5 + r_7)) r_3 1 (r_9 + r_11)) r_3 2 (r_13 + r_15)) r_3 3 (r_17 + r_19)) r_3 4 (r_21 + r_23))))), (pi, .inr (1, [.ref pia, .int pin])), (pia, .inl (cJ, 114, .inr (.inl pif))), (fa, .inr (2, [.ref fas, .ref fat, .ref faa, .int fan])), (fas, .inl (cI, 17, .inl faS)), (fat, .inl (cI, 17, .inl faT)), (faa, .inl (cI, 17, .inl faA))] H := hP.sub [0, 1, 2, 3, 4, 11, 12, 5, 6, 7, 8, 9, 10] rfl
  have hD : va_D A [(ob, .inr (0, [.int wi, .int hi, .int fo, .ref gi, .ref ke, .ref sp, .ref pi, .ref fa])), (gi, .inr (1, [.ref gia, .int gin])), (gia, .inl (cJ, 114, .inr (.inl gif))), (ke, .inr (1, [.ref kea, .int ken])), (kea, .inl (cJ, 114, .inr (.inl kef))), (sp, .inr (1, [.ref spa, .int (f_Ri_addRow_0_1 spn)])), (spa, .inl (cJ, 114, .inr (.inl (f_Ri_put_1 (f_Ri_addRow_0_1 spn) (f_Ri_put_1 (f_Ri_addRow_0_1 spn) (f_Ri_put_1 (f_Ri_addRow_0_1 spn) (f_Ri_put_1 (f_Ri_addRow_0_1 spn) (f_Ri_put_1 (f_Ri_addRow_0_1 spn) spf r_3 0 (r_5 + r_7)) r_3 1 (r_9 + r_11)) r_3 2 (r_13 + r_15)) r_3 3 (r_17 + r_19)) r_3 4 (r_21 + r_23))))), (pi, .inr (1, [.ref pia, .int pin])), (pia, .inl (cJ, 114, .inr (.inl pif))), (fa, .inr (2, [.ref fas, .ref fat, .ref faa, .int fan])), (fas, .inl (cI, 17, .inl faS)), (fat, .inl (cI, 17, .inl faT)), (faa, .inl (cI, 17, .inl faA))] := hD.sub [0, 1, 2, 3, 4, 11, 12, 5, 6, 7, 8, 9, 10] (by decide) rfl
  refine lv_iinc (v := 5) (lv' := [(9, .int 5), (12, .long r_22), (10, .long r_21), (8, .int r_3), (6, .long r_2), (4, .long r_1), (0, .ref ob), (1, .int st), (2, .int le), (3, .int sd)]) hx hb d_PC_addBetween_89 hl (k := 2) rfl (by decide) (by decide) rfl (fun ls hl => ?_)
  refine lv_goto (tgt := 28) hx hb d_PC_addBetween_92 (by decide) ?_
  refine lv_iload hx hb d_PC_addBetween_28 (lv_at hl 0 rfl) ?_
  refine lv_bipush (v := 6) hx hb d_PC_addBetween_30 (by decide) ?_
  refine lv_icmp_ge (tgt := 95) hx hb d_PC_addBetween_32 (by decide) (fun c_24 => absurd c_24 (by decide)) (fun _ => ?_)
  refine lv_aload_n hx hb d_PC_addBetween_35 rfl (lv_at hl 6 rfl) ?_
  refine va_get (D := (dC, dI)) (ci := 0) (v := .ref ke) (C := R_PC) (T := F_PC) (N := 8) hx hb hts (fun w h => mw (i_PC w h)) hown hK hP 0 rfl rfl 4 (by decide) (hts _ (mw wd_85)) (fun _ h9 => h9) rfl d_PC_addBetween_36 ?_
  refine lv_iload_n hx hb d_PC_addBetween_39 rfl (lv_at hl 7 rfl) ?_
  refine lv_iload hx hb d_PC_addBetween_40 (lv_at hl 0 rfl) ?_
  have hPc := hP.sub (ws' := [(ke, .inr (1, [.ref kea, .int ken])), (kea, .inl (cJ, 114, .inr (.inl kef)))]) [3, 4] rfl
  refine vp_callSl (va_Run.run (va_runVN (As := [.int st, .int 5]) (rest := []) ⟨hx, hb, hml, hown, hts⟩ (c_Ri_at l dC dI cJ cI ke kea ken kef st 5) (⟨va_cnB 2 hts (gd_0 wd_136) rfl rfl rfl (hN _ nw_10) (hts _ (mw wd_35)) (by decide +kernel) ⟨Nat.le_of_ble_eq_true rfl, Nat.le_of_ble_eq_true rfl⟩, (hts _ (mw wd_135)), (hts _ (mw wd_5))⟩) ⟨fb_ro, va_recv hK hPc (ci := 1) (q0 := 0) rfl rfl, pre_ro hK hN hPc⟩ rfl rfl hl.1 rfl (lv_room (Nat.le_of_ble_eq_true rfl)) d_PC_addBetween_42 ⟨Nat.le_of_ble_eq_true rfl, Nat.le_of_ble_eq_true rfl⟩)) (fun r_25 er_25 => ?_)
  have er_25 : r_25 = f_Ri_at ken kef st 5 := er_25
  refine lv_lstore (lv' := [(10, .long r_25), (9, .int 5), (12, .long r_22), (8, .int r_3), (6, .long r_2), (4, .long r_1), (0, .ref ob), (1, .int st), (2, .int le), (3, .int sd)]) hx hb d_PC_addBetween_45 hl (by decide) rfl (fun ls hl => ?_)
  refine lv_aload_n hx hb d_PC_addBetween_47 rfl (lv_at hl 6 rfl) ?_
  refine va_get (D := (dC, dI)) (ci := 0) (v := .ref ke) (C := R_PC) (T := F_PC) (N := 8) hx hb hts (fun w h => mw (i_PC w h)) hown hK hP 0 rfl rfl 4 (by decide) (hts _ (mw wd_85)) (fun _ h9 => h9) rfl d_PC_addBetween_48 ?_
  refine lv_iload_n hx hb d_PC_addBetween_51 rfl (lv_at hl 8 rfl) ?_
  refine lv_iload hx hb d_PC_addBetween_52 (lv_at hl 1 rfl) ?_
  have hPc := hP.sub (ws' := [(ke, .inr (1, [.ref kea, .int ken])), (kea, .inl (cJ, 114, .inr (.inl kef)))]) [3, 4] rfl
  refine vp_callSl (va_Run.run (va_runVN (As := [.int le, .int 5]) (rest := []) ⟨hx, hb, hml, hown, hts⟩ (c_Ri_at l dC dI cJ cI ke kea ken kef le 5) (⟨va_cnB 2 hts (gd_0 wd_136) rfl rfl rfl (hN _ nw_10) (hts _ (mw wd_35)) (by decide +kernel) ⟨Nat.le_of_ble_eq_true rfl, Nat.le_of_ble_eq_true rfl⟩, (hts _ (mw wd_135)), (hts _ (mw wd_5))⟩) ⟨fb_ro, va_recv hK hPc (ci := 1) (q0 := 0) rfl rfl, pre_ro hK hN hPc⟩ rfl rfl hl.1 rfl (lv_room (Nat.le_of_ble_eq_true rfl)) d_PC_addBetween_54 ⟨Nat.le_of_ble_eq_true rfl, Nat.le_of_ble_eq_true rfl⟩)) (fun r_26 er_26 => ?_)
  have er_26 : r_26 = f_Ri_at ken kef le 5 := er_26
  refine lv_lstore (lv' := [(12, .long r_26), (10, .long r_25), (9, .int 5), (8, .int r_3), (6, .long r_2), (4, .long r_1), (0, .ref ob), (1, .int st), (2, .int le), (3, .int sd)]) hx hb d_PC_addBetween_57 hl (by decide) rfl (fun ls hl => ?_)
  refine lv_aload_n hx hb d_PC_addBetween_59 rfl (lv_at hl 6 rfl) ?_
  refine va_get (D := (dC, dI)) (ci := 0) (v := .ref sp) (C := R_PC) (T := F_PC) (N := 8) hx hb hts (fun w h => mw (i_PC w h)) hown hK hP 0 rfl rfl 5 (by decide) (hts _ (mw wd_86)) (fun _ h9 => h9) rfl d_PC_addBetween_60 ?_
  refine lv_iload hx hb d_PC_addBetween_63 (lv_at hl 3 rfl) ?_
  refine lv_iload hx hb d_PC_addBetween_65 (lv_at hl 2 rfl) ?_
  refine lv_lload hx hb d_PC_addBetween_67 (lv_at hl 1 rfl) ?_
  refine lv_lload hx hb d_PC_addBetween_69 (lv_at hl 0 rfl) ?_
  refine lv_lload hx hb d_PC_addBetween_71 (lv_at hl 1 rfl) ?_
  refine lv_lsub hx hb d_PC_addBetween_73 ?_
  refine lv_lload hx hb d_PC_addBetween_74 (lv_at hl 5 rfl) ?_
  refine lv_lmul hx hb d_PC_addBetween_76 ?_
  refine lv_lload hx hb d_PC_addBetween_77 (lv_at hl 5 rfl) ?_
  refine lv_lload hx hb d_PC_addBetween_79 (lv_at hl 4 rfl) ?_
  refine lv_lsub hx hb d_PC_addBetween_81 ?_
  refine vp_callSl (va_Run.run (va_runS (As := [.long ((r_26 - r_25) * r_1), .long (r_1 - r_2)]) (rest := [.long r_25, .int 5, .int r_3, .ref sp]) ⟨hx, hb, hml, hown, hts⟩ (c_PC_div l dC dI cJ cI ((r_26 - r_25) * r_1) (r_1 - r_2)) (va_cwS 2 hts (gd_S wd_148 wd_149 wd_33 wd_150) rfl rfl rfl (by decide +kernel) ⟨Nat.le_of_ble_eq_true rfl, Nat.le_of_ble_eq_true rfl⟩) ⟨fb_ro, pre_ro hK hN va_nil⟩ rfl rfl hl.1 rfl (lv_room (Nat.le_of_ble_eq_true rfl)) d_PC_addBetween_82 ⟨Nat.le_of_ble_eq_true rfl, Nat.le_of_ble_eq_true rfl⟩)) (fun r_27 er_27 => ?_)
  have er_27 : r_27 = f_PC_div ((r_26 - r_25) * r_1) (r_1 - r_2) := er_27
  refine lv_ladd hx hb d_PC_addBetween_85 ?_
  have hPc := hP.sub (ws' := [(sp, .inr (1, [.ref spa, .int (f_Ri_addRow_0_1 spn)])), (spa, .inl (cJ, 114, .inr (.inl (f_Ri_put_1 (f_Ri_addRow_0_1 spn) (f_Ri_put_1 (f_Ri_addRow_0_1 spn) (f_Ri_put_1 (f_Ri_addRow_0_1 spn) (f_Ri_put_1 (f_Ri_addRow_0_1 spn) (f_Ri_put_1 (f_Ri_addRow_0_1 spn) spf r_3 0 (r_5 + r_7)) r_3 1 (r_9 + r_11)) r_3 2 (r_13 + r_15)) r_3 3 (r_17 + r_19)) r_3 4 (r_21 + r_23)))))]) [5, 6] rfl
  have hDc := hD.sub (ws' := [(sp, .inr (1, [.ref spa, .int (f_Ri_addRow_0_1 spn)])), (spa, .inl (cJ, 114, .inr (.inl (f_Ri_put_1 (f_Ri_addRow_0_1 spn) (f_Ri_put_1 (f_Ri_addRow_0_1 spn) (f_Ri_put_1 (f_Ri_addRow_0_1 spn) (f_Ri_put_1 (f_Ri_addRow_0_1 spn) (f_Ri_put_1 (f_Ri_addRow_0_1 spn) spf r_3 0 (r_5 + r_7)) r_3 1 (r_9 + r_11)) r_3 2 (r_13 + r_15)) r_3 3 (r_17 + r_19)) r_3 4 (r_21 + r_23)))))]) [5, 6] (by decide) rfl
  have hFc := va_free (wc := [(sp, .inr (1, [.ref spa, .int (f_Ri_addRow_0_1 spn)])), (spa, .inl (cJ, 114, .inr (.inl (f_Ri_put_1 (f_Ri_addRow_0_1 spn) (f_Ri_put_1 (f_Ri_addRow_0_1 spn) (f_Ri_put_1 (f_Ri_addRow_0_1 spn) (f_Ri_put_1 (f_Ri_addRow_0_1 spn) (f_Ri_put_1 (f_Ri_addRow_0_1 spn) spf r_3 0 (r_5 + r_7)) r_3 1 (r_9 + r_11)) r_3 2 (r_13 + r_15)) r_3 3 (r_17 + r_19)) r_3 4 (r_21 + r_23)))))]) hD hS hA [5, 6] rfl
  refine va_callv (va_runVN (As := [.int r_3, .int 5, .long (r_25 + r_27)]) (rest := []) ⟨hx, hb, hml, hown, hts⟩ (c_Ri_put l dC dI cJ cI H.size sp spa (f_Ri_addRow_0_1 spn) (f_Ri_put_1 (f_Ri_addRow_0_1 spn) (f_Ri_put_1 (f_Ri_addRow_0_1 spn) (f_Ri_put_1 (f_Ri_addRow_0_1 spn) (f_Ri_put_1 (f_Ri_addRow_0_1 spn) (f_Ri_put_1 (f_Ri_addRow_0_1 spn) spf r_3 0 (r_5 + r_7)) r_3 1 (r_9 + r_11)) r_3 2 (r_13 + r_15)) r_3 3 (r_17 + r_19)) r_3 4 (r_21 + r_23)) r_3 5 (r_25 + r_27)) (⟨va_cnB 3 hts (gd_0 wd_113) rfl rfl rfl (hN _ nw_7) (hts _ (mw wd_35)) (by decide +kernel) ⟨Nat.le_of_ble_eq_true rfl, Nat.le_of_ble_eq_true rfl⟩, (hts _ (mw wd_112)), (hts _ (mw wd_2))⟩) ⟨fb_rw, va_recv hK hPc (ci := 1) (q0 := 0) rfl rfl, pre_rw hK hN hPc hDc⟩ rfl rfl hl.1 rfl (lv_room (Nat.le_of_ble_eq_true rfl)) d_PC_addBetween_86 ⟨Nat.le_of_ble_eq_true rfl, Nat.le_of_ble_eq_true rfl⟩) hS (fun q _ h => hFc q h) hFc (fun u t H locs ht hvm hw hB hz1 hk1 hS => ?_)
  obtain ⟨hP1, hD1⟩ := hB
  rw [ht] at hP1
  obtain ⟨hP, hD⟩ := va_join (wr := [(ob, .inr (0, [.int wi, .int hi, .int fo, .ref gi, .ref ke, .ref sp, .ref pi, .ref fa])), (gi, .inr (1, [.ref gia, .int gin])), (gia, .inl (cJ, 114, .inr (.inl gif))), (ke, .inr (1, [.ref kea, .int ken])), (kea, .inl (cJ, 114, .inr (.inl kef))), (pi, .inr (1, [.ref pia, .int pin])), (pia, .inl (cJ, 114, .inr (.inl pif))), (fa, .inr (2, [.ref fas, .ref fat, .ref faa, .int fan])), (fas, .inl (cI, 17, .inl faS)), (fat, .inl (cI, 17, .inl faT)), (faa, .inl (cI, 17, .inl faA))]) (w1 := [(sp, .inr (1, [.ref spa, .int (f_Ri_addRow_0_1 spn)])), (spa, .inl (cJ, 114, .inr (.inl (f_Ri_put_1 (f_Ri_addRow_0_1 spn) (f_Ri_put_1 (f_Ri_addRow_0_1 spn) (f_Ri_put_1 (f_Ri_addRow_0_1 spn) (f_Ri_put_1 (f_Ri_addRow_0_1 spn) (f_Ri_put_1 (f_Ri_addRow_0_1 spn) (f_Ri_put_1 (f_Ri_addRow_0_1 spn) spf r_3 0 (r_5 + r_7)) r_3 1 (r_9 + r_11)) r_3 2 (r_13 + r_15)) r_3 3 (r_17 + r_19)) r_3 4 (r_21 + r_23)) r_3 5 (r_25 + r_27)))))]) hP hD [5, 6] [0, 1, 2, 3, 4, 7, 8, 9, 10, 11, 12] rfl rfl (by decide) (by decide) hk1 hFc hP1 hD1
  have hP : va_P (dC, dI) cls4 [(ob, .inr (0, [.int wi, .int hi, .int fo, .ref gi, .ref ke, .ref sp, .ref pi, .ref fa])), (gi, .inr (1, [.ref gia, .int gin])), (gia, .inl (cJ, 114, .inr (.inl gif))), (ke, .inr (1, [.ref kea, .int ken])), (kea, .inl (cJ, 114, .inr (.inl kef))), (sp, .inr (1, [.ref spa, .int (f_Ri_addRow_0_1 spn)])), (spa, .inl (cJ, 114, .inr (.inl (f_Ri_put_1 (f_Ri_addRow_0_1 spn) (f_Ri_put_1 (f_Ri_addRow_0_1 spn) (f_Ri_put_1 (f_Ri_addRow_0_1 spn) (f_Ri_put_1 (f_Ri_addRow_0_1 spn) (f_Ri_put_1 (f_Ri_addRow_0_1 spn) (f_Ri_put_1 (f_Ri_addRow_0_1 spn) spf r_3 0 (r_5 + r_7)) r_3 1 (r_9 + r_11)) r_3 2 (r_13 + r_15)) r_3 3 (r_17 + r_19)) r_3 4 (r_21 + r_23)) r_3 5 (r_25 + r_27))))), (pi, .inr (1, [.ref pia, .int pin])), (pia, .inl (cJ, 114, .inr (.inl pif))), (fa, .inr (2, [.ref fas, .ref fat, .ref faa, .int fan])), (fas, .inl (cI, 17, .inl faS)), (fat, .inl (cI, 17, .inl faT)), (faa, .inl (cI, 17, .inl faA))] H := hP.sub [0, 1, 2, 3, 4, 11, 12, 5, 6, 7, 8, 9, 10] rfl
  have hD : va_D A [(ob, .inr (0, [.int wi, .int hi, .int fo, .ref gi, .ref ke, .ref sp, .ref pi, .ref fa])), (gi, .inr (1, [.ref gia, .int gin])), (gia, .inl (cJ, 114, .inr (.inl gif))), (ke, .inr (1, [.ref kea, .int ken])), (kea, .inl (cJ, 114, .inr (.inl kef))), (sp, .inr (1, [.ref spa, .int (f_Ri_addRow_0_1 spn)])), (spa, .inl (cJ, 114, .inr (.inl (f_Ri_put_1 (f_Ri_addRow_0_1 spn) (f_Ri_put_1 (f_Ri_addRow_0_1 spn) (f_Ri_put_1 (f_Ri_addRow_0_1 spn) (f_Ri_put_1 (f_Ri_addRow_0_1 spn) (f_Ri_put_1 (f_Ri_addRow_0_1 spn) (f_Ri_put_1 (f_Ri_addRow_0_1 spn) spf r_3 0 (r_5 + r_7)) r_3 1 (r_9 + r_11)) r_3 2 (r_13 + r_15)) r_3 3 (r_17 + r_19)) r_3 4 (r_21 + r_23)) r_3 5 (r_25 + r_27))))), (pi, .inr (1, [.ref pia, .int pin])), (pia, .inl (cJ, 114, .inr (.inl pif))), (fa, .inr (2, [.ref fas, .ref fat, .ref faa, .int fan])), (fas, .inl (cI, 17, .inl faS)), (fat, .inl (cI, 17, .inl faT)), (faa, .inl (cI, 17, .inl faA))] := hD.sub [0, 1, 2, 3, 4, 11, 12, 5, 6, 7, 8, 9, 10] (by decide) rfl
  refine lv_iinc (v := 6) (lv' := [(9, .int 6), (12, .long r_26), (10, .long r_25), (8, .int r_3), (6, .long r_2), (4, .long r_1), (0, .ref ob), (1, .int st), (2, .int le), (3, .int sd)]) hx hb d_PC_addBetween_89 hl (k := 2) rfl (by decide) (by decide) rfl (fun ls hl => ?_)
  refine lv_goto (tgt := 28) hx hb d_PC_addBetween_92 (by decide) ?_
  refine lv_iload hx hb d_PC_addBetween_28 (lv_at hl 0 rfl) ?_
  refine lv_bipush (v := 6) hx hb d_PC_addBetween_30 (by decide) ?_
  refine lv_icmp_ge (tgt := 95) hx hb d_PC_addBetween_32 (by decide) (fun _ => ?_) (fun c_28 => absurd (by decide) c_28)
  subst er_1
  subst er_2
  subst er_3
  subst er_5
  subst er_6
  subst er_7
  subst er_9
  subst er_10
  subst er_11
  subst er_13
  subst er_14
  subst er_15
  subst er_17
  subst er_18
  subst er_19
  subst er_21
  subst er_22
  subst er_23
  subst er_25
  subst er_26
  subst er_27
  have ew_29 : f_PC_addBetween_6 wi hi fo ken kef spn spf st le sd = f_Ri_put_1 (f_Ri_addRow_0_1 spn) (f_Ri_put_1 (f_Ri_addRow_0_1 spn) (f_Ri_put_1 (f_Ri_addRow_0_1 spn) (f_Ri_put_1 (f_Ri_addRow_0_1 spn) (f_Ri_put_1 (f_Ri_addRow_0_1 spn) (f_Ri_put_1 (f_Ri_addRow_0_1 spn) spf (f_Ri_addRow_r spn) 0 ((f_Ri_at ken kef st 0) + (f_PC_div (((f_Ri_at ken kef le 0) - (f_Ri_at ken kef st 0)) * (f_PC_sideNumber wi hi fo ken kef st sd)) ((f_PC_sideNumber wi hi fo ken kef st sd) - (f_PC_sideNumber wi hi fo ken kef le sd))))) (f_Ri_addRow_r spn) 1 ((f_Ri_at ken kef st 1) + (f_PC_div (((f_Ri_at ken kef le 1) - (f_Ri_at ken kef st 1)) * (f_PC_sideNumber wi hi fo ken kef st sd)) ((f_PC_sideNumber wi hi fo ken kef st sd) - (f_PC_sideNumber wi hi fo ken kef le sd))))) (f_Ri_addRow_r spn) 2 ((f_Ri_at ken kef st 2) + (f_PC_div (((f_Ri_at ken kef le 2) - (f_Ri_at ken kef st 2)) * (f_PC_sideNumber wi hi fo ken kef st sd)) ((f_PC_sideNumber wi hi fo ken kef st sd) - (f_PC_sideNumber wi hi fo ken kef le sd))))) (f_Ri_addRow_r spn) 3 ((f_Ri_at ken kef st 3) + (f_PC_div (((f_Ri_at ken kef le 3) - (f_Ri_at ken kef st 3)) * (f_PC_sideNumber wi hi fo ken kef st sd)) ((f_PC_sideNumber wi hi fo ken kef st sd) - (f_PC_sideNumber wi hi fo ken kef le sd))))) (f_Ri_addRow_r spn) 4 ((f_Ri_at ken kef st 4) + (f_PC_div (((f_Ri_at ken kef le 4) - (f_Ri_at ken kef st 4)) * (f_PC_sideNumber wi hi fo ken kef st sd)) ((f_PC_sideNumber wi hi fo ken kef st sd) - (f_PC_sideNumber wi hi fo ken kef le sd))))) (f_Ri_addRow_r spn) 5 ((f_Ri_at ken kef st 5) + (f_PC_div (((f_Ri_at ken kef le 5) - (f_Ri_at ken kef st 5)) * (f_PC_sideNumber wi hi fo ken kef st sd)) ((f_PC_sideNumber wi hi fo ken kef st sd) - (f_PC_sideNumber wi hi fo ken kef le sd)))) := by rw [f_PC_addBetween_6]
  exact W.vret hx hb hr (fun t ht hW => ⟨⟨(), rfl, trivial, by rw [ht, ew_29]; exact hP, by rw [ew_29]; exact hD⟩, hS.F ht⟩) hS.2.2 d_PC_addBetween_95
end
section
/-- the class's picture and fan hold the value: ct pieces, their second and third corners, the corners on the picture -/
def cl_rel (pin : Int32) (pif : Nat → Int64) (fan : Int32) (faS faT faA : Nat → Int32) (ct pn : Nat) (S T : Nat → Nat) (P : Nat → Int64) : Prop :=
  pin = nI pn ∧ fan = nI ct ∧ (∀ j, j < 6 * pn → pif j = P j) ∧ pu_vok ct pn S T P ∧ ∀ i, i < ct → faS i = nI (S i) ∧ faT i = nI (T i) ∧ faA i = (pu_ar P (S i) (T i)).toInt32
section CL
variable {wi hi pin fan : Int32} {pif : Nat → Int64} {faS faT faA : Nat → Int32} {ct pn : Nat} {S T : Nat → Nat} {P : Nat → Int64}
theorem cl_at (hr : cl_rel pin pif fan faS faT faA ct pn S T P) {c k : Nat} (hc : c < pn) (hk : k < 6) : f_Ri_at pin pif (nI c) (nI k) = P (6 * c + k) := by
  obtain ⟨rfl, -, hp, hv, -⟩ := hr
  rw [ri_at_v hv.2.1 hc hk, hp _ (by omega)]
theorem cl_at0 (hr : cl_rel pin pif fan faS faT faA ct pn S T P) {c : Nat} (hc : c < pn) : f_Ri_at pin pif (nI c) 0 = P (6 * c) := cl_at hr hc (k := 0) (by decide)
theorem cl_at1 (hr : cl_rel pin pif fan faS faT faA ct pn S T P) {c : Nat} (hc : c < pn) : f_Ri_at pin pif (nI c) 1 = P (6 * c + 1) := cl_at hr hc (k := 1) (by decide)
theorem cl_at2 (hr : cl_rel pin pif fan faS faT faA ct pn S T P) {c : Nat} (hc : c < pn) : f_Ri_at pin pif (nI c) 2 = P (6 * c + 2) := cl_at hr hc (k := 2) (by decide)
theorem cl_cor (hr : cl_rel pin pif fan faS faT faA ct pn S T P) {i : Nat} (hi : i < ct) : f_Fa_corner fan faS faT (nI i) 0 = nI 0 ∧ f_Fa_corner fan faS faT (nI i) 1 = nI (S i) ∧ f_Fa_corner fan faS faT (nI i) 2 = nI (T i) := by
  obtain ⟨-, rfl, -, hv, hf⟩ := hr
  obtain ⟨f1, f2, -⟩ := hf i hi
  have h17 := hv.1
  unfold f_Fa_corner
  refine ⟨?_, ?_, ?_⟩
  · rw [fa_has_1 h17 hi, if_neg (by decide), if_pos rfl, nk_set_0]
  · rw [fa_has_1 h17 hi, if_neg (by decide), if_neg (by decide), if_pos rfl, nI_clamp (by omega), f1]
  · rw [fa_has_1 h17 hi, if_neg (by decide), if_neg (by decide), if_neg (by decide), if_pos rfl, nI_clamp (by omega), f2]
theorem cl_ca : f_PC_cornerAfter 0 = 1 ∧ f_PC_cornerAfter 1 = 2 ∧ f_PC_cornerAfter 2 = 0 := by decide
theorem cl_edge (hr : cl_rel pin pif fan faS faT faA ct pn S T P) {i : Nat} (hi : i < ct) (xx yy : Int32) :
    f_PC_edgeNumber pin pif fan faS faT (nI i) 0 xx yy = qy_E P (S i) (T i) xx yy ∧ f_PC_edgeNumber pin pif fan faS faT (nI i) 1 xx yy = qy_E P (T i) 0 xx yy ∧ f_PC_edgeNumber pin pif fan faS faT (nI i) 2 xx yy = qy_E P 0 (S i) xx yy := by
  obtain ⟨k0, k1, k2⟩ := cl_cor hr hi
  obtain ⟨a0, a1, a2⟩ := cl_ca
  obtain ⟨s1, s2, -⟩ := hr.2.2.2.1.2.2 i hi
  have s0 : 0 < pn := by omega
  unfold f_PC_edgeNumber
  rw [a0, a1, a2, a0, k0, k1, k2, cl_at0 hr s0, cl_at0 hr s1, cl_at0 hr s2, cl_at1 hr s0, cl_at1 hr s1, cl_at1 hr s2]
  exact ⟨rfl, rfl, rfl⟩
theorem cl_sgn {E Ya Yb Xa Xb : Int64} (ha : pu_in Ya 1200) (hb : pu_in Yb 1200) :
    ((0 < E ∨ (E = 0 ∧ (Yb < Ya ∨ (Yb = Ya ∧ Xa < Xb)))) → (if E = 0 then (if Yb - Ya < 0 then (1 : Int32) else (if Yb - Ya = 0 then (if Xb ≤ Xa then 0 else 1) else 0)) else (if E ≤ 0 then 0 else 1)) = 1) ∧ (¬ (0 < E ∨ (E = 0 ∧ (Yb < Ya ∨ (Yb = Ya ∧ Xa < Xb)))) → (if E = 0 then (if Yb - Ya < 0 then (1 : Int32) else (if Yb - Ya = 0 then (if Xb ≤ Xa then 0 else 1) else 0)) else (if E ≤ 0 then 0 else 1)) = 0) := by
  have e1 : (Yb - Ya).toInt = Yb.toInt - Ya.toInt := (pu_sub64 hb ha (by decide)).1
  have i1 : Yb - Ya < 0 ↔ Yb < Ya := by rw [Int64.lt_iff_toInt_lt, Int64.lt_iff_toInt_lt, e1, Int64.toInt_zero]; omega
  have i2 : Yb - Ya = 0 ↔ Yb = Ya := by rw [← Int64.toInt_inj, ← Int64.toInt_inj, e1, Int64.toInt_zero]; omega
  have i3 : Xb ≤ Xa ↔ ¬ Xa < Xb := by rw [Int64.le_iff_toInt_le, Int64.lt_iff_toInt_lt]; omega
  have i4 : E ≤ 0 ↔ ¬ 0 < E := by rw [Int64.le_iff_toInt_le, Int64.lt_iff_toInt_lt]; omega
  have i5 : E = 0 → ¬ 0 < E := fun q => by rw [q]; decide
  by_cases h0 : E = 0
  · have h9 := i5 h0
    rw [if_pos h0]
    by_cases h1 : Yb < Ya
    · rw [if_pos (i1.mpr h1)]
      exact ⟨fun _ => rfl, fun q => absurd (Or.inr ⟨h0, Or.inl h1⟩) q⟩
    · rw [if_neg (fun q => h1 (i1.mp q))]
      by_cases h2 : Yb = Ya
      · rw [if_pos (i2.mpr h2)]
        by_cases h3 : Xa < Xb
        · rw [if_neg (fun q => i3.mp q h3)]
          exact ⟨fun _ => rfl, fun q => absurd (Or.inr ⟨h0, Or.inr ⟨h2, h3⟩⟩) q⟩
        · rw [if_pos (i3.mpr h3)]
          refine ⟨fun q => ?_, fun _ => rfl⟩
          rcases q with q | ⟨-, q | ⟨-, q⟩⟩
          · exact absurd q h9
          · exact absurd q h1
          · exact absurd q h3
      · rw [if_neg (fun q => h2 (i2.mp q))]
        refine ⟨fun q => ?_, fun _ => rfl⟩
        rcases q with q | ⟨-, q | ⟨q, -⟩⟩
        · exact absurd q h9
        · exact absurd q h1
        · exact absurd q h2
  · rw [if_neg h0]
    by_cases h1 : 0 < E
    · rw [if_neg (fun q => i4.mp q h1)]
      exact ⟨fun _ => rfl, fun q => absurd (Or.inl h1) q⟩
    · rw [if_pos (i4.mpr h1)]
      refine ⟨fun q => ?_, fun _ => rfl⟩
      rcases q with q | ⟨q, -⟩
      · exact absurd q h1
      · exact absurd q h0
theorem cl_in3 (hr : cl_rel pin pif fan faS faT faA ct pn S T P) {i : Nat} (hi : i < ct) (xx yy : Int32) :
    ((qy_own P (S i) (T i) xx yy → f_PC_isInside pin pif fan faS faT (nI i) 0 xx yy = 1) ∧ (¬ qy_own P (S i) (T i) xx yy → f_PC_isInside pin pif fan faS faT (nI i) 0 xx yy = 0)) ∧
    ((qy_own P (T i) 0 xx yy → f_PC_isInside pin pif fan faS faT (nI i) 1 xx yy = 1) ∧ (¬ qy_own P (T i) 0 xx yy → f_PC_isInside pin pif fan faS faT (nI i) 1 xx yy = 0)) ∧
    ((qy_own P 0 (S i) xx yy → f_PC_isInside pin pif fan faS faT (nI i) 2 xx yy = 1) ∧ (¬ qy_own P 0 (S i) xx yy → f_PC_isInside pin pif fan faS faT (nI i) 2 xx yy = 0)) := by
  obtain ⟨k0, k1, k2⟩ := cl_cor hr hi
  obtain ⟨a0, a1, a2⟩ := cl_ca
  obtain ⟨e0, e1, e2⟩ := cl_edge hr hi xx yy
  obtain ⟨s1, s2, p0, pa, pb, -⟩ := hr.2.2.2.1.2.2 i hi
  have s0 : 0 < pn := by omega
  unfold f_PC_isInside
  rw [e0, e1, e2, a0, a1, a2, a0, k0, k1, k2, cl_at0 hr s0, cl_at0 hr s1, cl_at0 hr s2, cl_at1 hr s0, cl_at1 hr s1, cl_at1 hr s2]
  exact ⟨cl_sgn pa.2.1 pb.2.1, cl_sgn pb.2.1 p0.2.1, cl_sgn p0.2.1 pa.2.1⟩
theorem cl_pix {xx yy : Int32} : (qy_pix wi hi xx yy → f_PC_isPixel wi hi xx yy = 1) ∧ (¬ qy_pix wi hi xx yy → f_PC_isPixel wi hi xx yy = 0) := by
  have n1 : wi ≤ xx ↔ ¬ xx < wi := by rw [Int32.le_iff_toInt_le, Int32.lt_iff_toInt_lt]; omega
  have n2 : hi ≤ yy ↔ ¬ yy < hi := by rw [Int32.le_iff_toInt_le, Int32.lt_iff_toInt_lt]; omega
  unfold f_PC_isPixel qy_pix
  refine ⟨fun h => ?_, fun h => ?_⟩
  · obtain ⟨⟨h1, h2⟩, h3, h4⟩ := h
    rw [if_neg h1, if_neg (fun q => n1.mp q h2), if_neg h3, if_neg (fun q => n2.mp q h4)]
  · by_cases h1 : xx < 0
    · rw [if_pos h1]
    · rw [if_neg h1]
      by_cases h2 : wi ≤ xx
      · rw [if_pos h2]
      · rw [if_neg h2]
        by_cases h3 : yy < 0
        · rw [if_pos h3]
        · rw [if_neg h3]
          by_cases h4 : hi ≤ yy
          · rw [if_pos h4]
          · exact absurd ⟨⟨h1, Classical.byContradiction fun q => h2 (n1.mpr q)⟩, h3, Classical.byContradiction fun q => h4 (n2.mpr q)⟩ h
theorem cl_rng {ix : Int32} (h : ¬ ∃ j : Nat, j < ct ∧ ix = nI j) (hct : ct ≤ 17) : ix < 0 ∨ nI ct ≤ ix := by
  by_cases h0 : ix < 0
  · exact Or.inl h0
  · refine Or.inr (Classical.byContradiction fun q => h ?_)
    exact ix_of (M := nI ct) rfl (by omega) h0 q
theorem cl_covers (hr : cl_rel pin pif fan faS faT faA ct pn S T P) (ix xx yy : Int32) : f_PC_covers wi hi pin pif fan faS faT ix xx yy = qc wi hi ct S T P ix xx yy := by
  obtain ⟨p1, p2⟩ := cl_pix (wi := wi) (hi := hi) (xx := xx) (yy := yy)
  have hf : fan = nI ct := hr.2.1
  have hct : ct ≤ 17 := hr.2.2.2.1.1
  unfold f_PC_covers
  by_cases hp : qy_pix wi hi xx yy
  · rw [p1 hp, if_neg (by decide)]
    by_cases hj : ∃ j : Nat, j < ct ∧ ix = nI j
    · obtain ⟨j, hj, rfl⟩ := hj
      rw [hf, fa_has_1 hct hj, if_neg (by decide), ← hf]
      obtain ⟨⟨i1, i2⟩, ⟨i3, i4⟩, i5, i6⟩ := cl_in3 hr hj xx yy
      by_cases c0 : qy_own P (S j) (T j) xx yy
      · rw [i1 c0, if_neg (by decide)]
        by_cases c1 : qy_own P (T j) 0 xx yy
        · rw [i3 c1, if_neg (by decide)]
          by_cases c2 : qy_own P 0 (S j) xx yy
          · rw [i5 c2, if_neg (by decide), qc_1 ⟨j, hj, rfl, hp, c0, c1, c2⟩]
          · rw [i6 c2, if_pos rfl, qc_0]
            rintro ⟨a, ha, e, -, q⟩
            have : j = a := (nI_eq (by omega) (by omega)).mp e
            subst this
            exact c2 q.2.2
        · rw [i4 c1, if_pos rfl, qc_0]
          rintro ⟨a, ha, e, -, q⟩
          have : j = a := (nI_eq (by omega) (by omega)).mp e
          subst this
          exact c1 q.2.1
      · rw [i2 c0, if_pos rfl, qc_0]
        rintro ⟨a, ha, e, -, q⟩
        have : j = a := (nI_eq (by omega) (by omega)).mp e
        subst this
        exact c0 q.1
    · rw [hf, fa_has_0 (cl_rng hj hct), if_pos rfl, qc_0]
      rintro ⟨a, ha, e, -⟩
      exact hj ⟨a, ha, e⟩
  · rw [p2 hp, if_pos rfl, qc_0]
    rintro ⟨a, ha, e, q, -⟩
    exact hp q
theorem cl_weight (hr : cl_rel pin pif fan faS faT faA ct pn S T P) {i : Nat} (hi : i < ct) (xx yy : Int32) :
    f_PC_weight pin pif fan faS faT (nI i) 0 xx yy = qy_w0 P (S i) (T i) xx yy ∧ f_PC_weight pin pif fan faS faT (nI i) 1 xx yy = qy_w1 P (S i) (T i) xx yy ∧ f_PC_weight pin pif fan faS faT (nI i) 2 xx yy = qy_w2 P (S i) (T i) xx yy := by
  obtain ⟨k0, k1, k2⟩ := cl_cor hr hi
  obtain ⟨e0, e1, e2⟩ := cl_edge hr hi xx yy
  obtain ⟨s1, s2, -⟩ := hr.2.2.2.1.2.2 i hi
  have s0 : 0 < pn := by omega
  unfold f_PC_weight
  rw [e0, e1, e2, k0, k1, k2, cl_at2 hr s0, cl_at2 hr s1, cl_at2 hr s2]
  exact ⟨rfl, rfl, rfl⟩
theorem cl_wsum (hr : cl_rel pin pif fan faS faT faA ct pn S T P) {i : Nat} (hi : i < ct) (xx yy : Int32) : f_PC_weightSum pin pif fan faS faT (nI i) xx yy = qy_h P (S i) (T i) xx yy := by
  obtain ⟨e0, e1, e2⟩ := cl_weight hr hi xx yy
  unfold f_PC_weightSum
  rw [e0, e1, e2]
  rfl
/-- the class's DIV is the reference's, for a divisor above 0 -/
theorem cl_xor {x y : Int64} (hy : 0 < y.toInt) : 0 ≤ x ^^^ y ↔ 0 ≤ x.toInt := by
  rw [Jvm.Kit.i64_nonneg]
  have h1 : (x ^^^ y).toBitVec.msb = decide ((x ^^^ y).toBitVec.toInt < 0) := BitVec.msb_eq_toInt
  have h2 : x.toBitVec.msb = decide (x.toBitVec.toInt < 0) := BitVec.msb_eq_toInt
  have h3 : y.toBitVec.msb = decide (y.toBitVec.toInt < 0) := BitVec.msb_eq_toInt
  have e1 : (x ^^^ y).toBitVec.toInt = (x ^^^ y).toInt := rfl
  have e2 : x.toBitVec.toInt = x.toInt := rfl
  have e3 : y.toBitVec.toInt = y.toInt := rfl
  rw [Int64.toBitVec_xor, BitVec.msb_xor] at h1
  rw [← Int64.toBitVec_xor, e1] at h1
  rw [e2] at h2
  rw [e3, decide_eq_false (by omega)] at h3
  rw [h2, h3, Bool.xor_false] at h1
  have h4 : (x.toInt < 0) ↔ ((x ^^^ y).toInt < 0) := decide_eq_decide.mp h1
  omega
theorem cl_div {x y : Int64} (hy : 0 < y.toInt) : f_PC_div x y = pu_div x y := by
  have hne : ¬ y = 0 := fun q => by rw [q, Int64.toInt_zero] at hy; omega
  obtain ⟨hq, hm⟩ := pu_quot (a := x) hy
  obtain ⟨t1, t2⟩ := pu_tdiv (a := x.toInt) hy
  unfold f_PC_div f_Ma_floorDiv pu_div
  rw [if_neg hne]
  by_cases h0 : 0 ≤ x.toInt
  · rw [if_pos ((cl_xor hy).mpr h0), if_neg]
    rw [Int64.lt_iff_toInt_lt, hm]
    have := t1 h0
    omega
  · rw [if_neg (fun q => h0 ((cl_xor hy).mp q))]
    have := t2 (by omega)
    by_cases h1 : x / y * y = x
    · rw [if_pos h1, if_neg]
      rw [h1]
      exact Int64.lt_irrefl
    · rw [if_neg h1, if_pos]
      rw [Int64.lt_iff_toInt_lt, hm]
      rw [← Int64.toInt_inj, hm] at h1
      omega
theorem cl_area (hr : cl_rel pin pif fan faS faT faA ct pn S T P) (ix : Int32) : f_PC_area fan faA ix = qa_area ct S T P ix := by
  obtain ⟨-, rfl, -, hv, hf⟩ := hr
  have hct := hv.1
  unfold f_PC_area qa_area
  by_cases hj : ∃ j : Nat, j < ct ∧ ix = nI j
  · obtain ⟨j, hj, rfl⟩ := hj
    rw [fa_has_1 hct hj, if_neg (by decide), nI_clamp (by omega), (hf j hj).2.2, if_neg]
    rintro (q | q)
    · exact nI_pos (by omega) q
    · rw [nI_leI (by omega) (by omega)] at q; omega
  · rw [fa_has_0 (cl_rng hj hct), if_pos rfl, if_pos (cl_rng hj hct)]
theorem cl_fit {P : Nat → Int64} {a b : Nat} (h0 : pu_pok P 0) (ha : pu_pok P a) (hb : pu_pok P b) : (pu_ar P a b).toInt32.toInt64 = pu_ar P a b := by
  have h := (pu_ar_toInt h0 ha hb).2
  exact lg_i2l_l2i (by have := h.1; omega) (by have := h.2; omega)
theorem cl_near (hr : cl_rel pin pif fan faS faT faA ct pn S T P) (ix xx yy : Int32) : f_PC_near wi hi pin pif fan faS faT faA ix xx yy = qa_near wi hi ct S T P ix xx yy := by
  unfold f_PC_near qa_near
  rw [cl_covers hr]
  by_cases h : qc wi hi ct S T P ix xx yy = 0
  · rw [if_pos h, if_pos h]
  · rw [if_neg h, if_neg h]
    obtain ⟨j, hj, rfl, -⟩ := qc_cov h
    have hct := hr.2.2.2.1.1
    obtain ⟨-, -, p0, pa, pb, hA⟩ := hr.2.2.2.1.2.2 j hj
    rw [cl_wsum hr hj, cl_area hr, nI_clamp (by omega)]
    unfold qa_area
    rw [nI_clamp (by omega), if_neg, cl_fit p0 pa pb, cl_div hA]
    rintro (q | q)
    · exact nI_pos (by omega) q
    · rw [nI_leI (by omega) (by omega)] at q; omega
theorem cl_number (hr : cl_rel pin pif fan faS faT faA ct pn S T P) (hw : wi.toInt ≤ 48) (hh : hi.toInt ≤ 48) (ix xx yy wh : Int32) : f_PC_number wi hi pin pif fan faS faT ix xx yy wh = qa_number wi hi ct S T P ix xx yy wh := by
  unfold f_PC_number qa_number
  rw [cl_covers hr]
  by_cases h : qc wi hi ct S T P ix xx yy = 0
  · rw [if_pos h, if_pos h]
    split
    · rfl
    · split <;> rfl
  · rw [if_neg h, if_neg h]
    by_cases h1 : wh < 0
    · rw [if_pos h1, if_pos h1]
    · rw [if_neg h1, if_neg h1]
      by_cases h2 : 3 ≤ wh
      · rw [if_pos h2, if_pos h2]
      · rw [if_neg h2, if_neg h2]
        obtain ⟨k, hk, rfl⟩ := ix_of (M := 3) (n := 3) rfl (by decide) h1 h2
        obtain ⟨j, hj, rfl, hp, hc⟩ := qc_cov h
        have hct := hr.2.2.2.1.1
        obtain ⟨s1, s2, p0, pa, pb, hA⟩ := hr.2.2.2.1.2.2 j hj
        obtain ⟨e0, e1, e2⟩ := cl_weight hr hj xx yy
        obtain ⟨k0, k1, k2⟩ := cl_cor hr hj
        have hpos := qy_h_pos hw hh p0 pa pb hA hp hc
        have a0 := cl_at hr (c := 0) (k := 3 + k) (by omega) (by omega)
        have a1 := cl_at hr (c := S j) (k := 3 + k) s1 (by omega)
        have a2 := cl_at hr (c := T j) (k := 3 + k) s2 (by omega)
        rw [show (3 : Int32) = nI 3 from rfl, nI_add, e0, e1, e2, k0, k1, k2, a0, a1, a2, cl_wsum hr hj, nI_clamp (by omega), nI_clamp (by omega), cl_div hpos]
        unfold qy_sum
        rw [show 6 * 0 + (3 + k) = 3 + k by omega, show 6 * S j + (3 + k) = 6 * S j + 3 + k by omega, show 6 * T j + (3 + k) = 6 * T j + 3 + k by omega]
theorem cl_piece (hr : cl_rel pin pif fan faS faT faA ct pn S T P) (ix co wh : Int32) : f_PC_piece pin pif fan faS faT ix co wh = qa_piece ct S T P ix co wh := by
  have hct := hr.2.2.2.1.1
  have hpn := hr.2.2.2.1.2.1
  have hpin : pin = nI pn := hr.1
  unfold f_PC_piece qa_piece
  by_cases hw : wh < 0 ∨ 6 ≤ wh
  · rw [hpin, ri_at_wh hw, if_pos hw]
    split
    · rfl
    · split <;> rfl
  · by_cases hj : ∃ j : Nat, j < ct ∧ ix = nI j
    · obtain ⟨j, hj, rfl⟩ := hj
      obtain ⟨k0, k1, k2⟩ := cl_cor hr hj
      obtain ⟨s1, s2, -⟩ := hr.2.2.2.1.2.2 j hj
      obtain ⟨k, hk, rfl⟩ := ix_of (M := 6) (n := 6) rfl (by decide) (fun q => hw (Or.inl q)) (fun q => hw (Or.inr q))
      rw [if_neg (by rintro (q | q); exact nI_pos (by omega) q; rw [nI_leI (by omega) (by omega)] at q; omega)]
      by_cases hc : co < 0 ∨ 3 ≤ co
      · rw [if_pos hc, hpin]
        have e : f_Fa_corner fan faS faT (nI j) co = -1 := by
          have hf : fan = nI ct := hr.2.1
          unfold f_Fa_corner
          rw [hf, fa_has_1 hct hj, if_neg (by decide), if_neg, if_neg, if_neg]
          · rintro rfl; revert hc; decide
          · rintro rfl; revert hc; decide
          · rintro rfl; revert hc; decide
        rw [e, ri_at_no hpn]
        rfl
      · rw [if_neg hc, if_neg hw]
        obtain ⟨c, hc3, rfl⟩ := ix_of (M := 3) (n := 3) rfl (by decide) (fun q => hc (Or.inl q)) (fun q => hc (Or.inr q))
        rw [nI_clamp (by omega), nI_clamp (by omega), nI_clamp (by omega)]
        match c, hc3 with
        | 0, _ => rw [show nI 0 = (0 : Int32) from rfl, k0, cl_at hr (c := 0) (by omega) hk]; rfl
        | 1, _ => rw [show nI 1 = (1 : Int32) from rfl, k1, cl_at hr s1 hk]; rfl
        | 2, _ => rw [show nI 2 = (2 : Int32) from rfl, k2, cl_at hr s2 hk]; rfl
    · have hf : fan = nI ct := hr.2.1
      have hn := cl_rng hj hct
      rw [if_pos hn]
      have e : f_Fa_corner fan faS faT ix co = -1 := by
        unfold f_Fa_corner
        rw [hf, fa_has_0 hn, if_pos rfl]
      rw [e, hpin, ri_at_no hpn]
      rfl
end CL
end
section
set_option maxHeartbeats 4000000 in
set_option maxRecDepth 100000 in
theorem k_PC_covers (l : Launch) (dC : Nat → ClassId) (dI : Nat → Nat → Nat) (cJ cI : ClassId) (ob : Nat) (wi : Int32) (hi : Int32) (fo : Int32) (gi : Nat) (gia : Nat) (gin : Int32) (gif : Nat → Int64) (ke : Nat) (kea : Nat) (ken : Int32) (kef : Nat → Int64) (sp : Nat) (spa : Nat) (spn : Int32) (spf : Nat → Int64) (pi : Nat) (pia : Nat) (pin : Int32) (pif : Nat → Int64) (fa : Nat) (fas : Nat) (fat : Nat) (faa : Nat) (fan : Int32) (faS : Nat → Int32) (faT : Nat → Int32) (faA : Nat → Int32) (ct : Nat) (pn : Nat) (S : Nat → Nat) (T : Nat → Nat) (P : Nat → Int64) (ix : Int32) (xx : Int32) (yy : Int32) (hr9 : cl_rel pin pif fan faS faT faA ct pn S T P) : Met l y_PC_covers w_PC_covers ({ frames := 4, cells := 0, slots := 0, locals := 103 } : Room) (rq_ro (dC, dI) cJ cI [.ref ob, .int ix, .int xx, .int yy] [(ob, .inr (0, [.int wi, .int hi, .int fo, .ref gi, .ref ke, .ref sp, .ref pi, .ref fa])), (gi, .inr (1, [.ref gia, .int gin])), (gia, .inl (cJ, 114, .inr (.inl gif))), (ke, .inr (1, [.ref kea, .int ken])), (kea, .inl (cJ, 114, .inr (.inl kef))), (sp, .inr (1, [.ref spa, .int spn])), (spa, .inl (cJ, 114, .inr (.inl spf))), (pi, .inr (1, [.ref pia, .int pin])), (pia, .inl (cJ, 114, .inr (.inl pif))), (fa, .inr (2, [.ref fas, .ref fat, .ref faa, .int fan])), (fas, .inl (cI, 17, .inl faS)), (fat, .inl (cI, 17, .inl faT)), (faa, .inl (cI, 17, .inl faA))]) (vp_Si (fun r => r = qc wi hi ct S T P ix xx yy)) 0 0 (fun _ => False) := by
  have h := c_PC_covers l dC dI cJ cI ob wi hi fo gi gia gin gif ke kea ken kef sp spa spn spf pi pia pin pif fa fas fat faa fan faS faT faA ix xx yy
  rw [cl_covers hr9] at h
  exact h
set_option maxHeartbeats 4000000 in
set_option maxRecDepth 100000 in
theorem k_PC_piece (l : Launch) (dC : Nat → ClassId) (dI : Nat → Nat → Nat) (cJ cI : ClassId) (ob : Nat) (wi : Int32) (hi : Int32) (fo : Int32) (gi : Nat) (gia : Nat) (gin : Int32) (gif : Nat → Int64) (ke : Nat) (kea : Nat) (ken : Int32) (kef : Nat → Int64) (sp : Nat) (spa : Nat) (spn : Int32) (spf : Nat → Int64) (pi : Nat) (pia : Nat) (pin : Int32) (pif : Nat → Int64) (fa : Nat) (fas : Nat) (fat : Nat) (faa : Nat) (fan : Int32) (faS : Nat → Int32) (faT : Nat → Int32) (faA : Nat → Int32) (ct : Nat) (pn : Nat) (S : Nat → Nat) (T : Nat → Nat) (P : Nat → Int64) (ix : Int32) (co : Int32) (wh : Int32) (hr9 : cl_rel pin pif fan faS faT faA ct pn S T P) : Met l y_PC_piece w_PC_piece ({ frames := 2, cells := 0, slots := 0, locals := 43 } : Room) (rq_ro (dC, dI) cJ cI [.ref ob, .int ix, .int co, .int wh] [(ob, .inr (0, [.int wi, .int hi, .int fo, .ref gi, .ref ke, .ref sp, .ref pi, .ref fa])), (gi, .inr (1, [.ref gia, .int gin])), (gia, .inl (cJ, 114, .inr (.inl gif))), (ke, .inr (1, [.ref kea, .int ken])), (kea, .inl (cJ, 114, .inr (.inl kef))), (sp, .inr (1, [.ref spa, .int spn])), (spa, .inl (cJ, 114, .inr (.inl spf))), (pi, .inr (1, [.ref pia, .int pin])), (pia, .inl (cJ, 114, .inr (.inl pif))), (fa, .inr (2, [.ref fas, .ref fat, .ref faa, .int fan])), (fas, .inl (cI, 17, .inl faS)), (fat, .inl (cI, 17, .inl faT)), (faa, .inl (cI, 17, .inl faA))]) (vp_Si (fun r => r = qa_piece ct S T P ix co wh)) 0 0 (fun _ => False) := by
  have h := c_PC_piece l dC dI cJ cI ob wi hi fo gi gia gin gif ke kea ken kef sp spa spn spf pi pia pin pif fa fas fat faa fan faS faT faA ix co wh
  rw [cl_piece hr9] at h
  exact h
set_option maxHeartbeats 4000000 in
set_option maxRecDepth 100000 in
theorem k_PC_area (l : Launch) (dC : Nat → ClassId) (dI : Nat → Nat → Nat) (cJ cI : ClassId) (ob : Nat) (wi : Int32) (hi : Int32) (fo : Int32) (gi : Nat) (gia : Nat) (gin : Int32) (gif : Nat → Int64) (ke : Nat) (kea : Nat) (ken : Int32) (kef : Nat → Int64) (sp : Nat) (spa : Nat) (spn : Int32) (spf : Nat → Int64) (pi : Nat) (pia : Nat) (pin : Int32) (pif : Nat → Int64) (fa : Nat) (fas : Nat) (fat : Nat) (faa : Nat) (fan : Int32) (faS : Nat → Int32) (faT : Nat → Int32) (faA : Nat → Int32) (ct : Nat) (pn : Nat) (S : Nat → Nat) (T : Nat → Nat) (P : Nat → Int64) (ix : Int32) (hr9 : cl_rel pin pif fan faS faT faA ct pn S T P) : Met l y_PC_area w_PC_area ({ frames := 1, cells := 0, slots := 0, locals := 21 } : Room) (rq_ro (dC, dI) cJ cI [.ref ob, .int ix] [(ob, .inr (0, [.int wi, .int hi, .int fo, .ref gi, .ref ke, .ref sp, .ref pi, .ref fa])), (gi, .inr (1, [.ref gia, .int gin])), (gia, .inl (cJ, 114, .inr (.inl gif))), (ke, .inr (1, [.ref kea, .int ken])), (kea, .inl (cJ, 114, .inr (.inl kef))), (sp, .inr (1, [.ref spa, .int spn])), (spa, .inl (cJ, 114, .inr (.inl spf))), (pi, .inr (1, [.ref pia, .int pin])), (pia, .inl (cJ, 114, .inr (.inl pif))), (fa, .inr (2, [.ref fas, .ref fat, .ref faa, .int fan])), (fas, .inl (cI, 17, .inl faS)), (fat, .inl (cI, 17, .inl faT)), (faa, .inl (cI, 17, .inl faA))]) (vp_Si (fun r => r = qa_area ct S T P ix)) 0 0 (fun _ => False) := by
  have h := c_PC_area l dC dI cJ cI ob wi hi fo gi gia gin gif ke kea ken kef sp spa spn spf pi pia pin pif fa fas fat faa fan faS faT faA ix
  rw [cl_area hr9] at h
  exact h
set_option maxHeartbeats 4000000 in
set_option maxRecDepth 100000 in
theorem k_PC_near (l : Launch) (dC : Nat → ClassId) (dI : Nat → Nat → Nat) (cJ cI : ClassId) (ob : Nat) (wi : Int32) (hi : Int32) (fo : Int32) (gi : Nat) (gia : Nat) (gin : Int32) (gif : Nat → Int64) (ke : Nat) (kea : Nat) (ken : Int32) (kef : Nat → Int64) (sp : Nat) (spa : Nat) (spn : Int32) (spf : Nat → Int64) (pi : Nat) (pia : Nat) (pin : Int32) (pif : Nat → Int64) (fa : Nat) (fas : Nat) (fat : Nat) (faa : Nat) (fan : Int32) (faS : Nat → Int32) (faT : Nat → Int32) (faA : Nat → Int32) (ct : Nat) (pn : Nat) (S : Nat → Nat) (T : Nat → Nat) (P : Nat → Int64) (ix : Int32) (xx : Int32) (yy : Int32) (hr9 : cl_rel pin pif fan faS faT faA ct pn S T P) : Met l y_PC_near w_PC_near ({ frames := 5, cells := 0, slots := 0, locals := 127 } : Room) (rq_ro (dC, dI) cJ cI [.ref ob, .int ix, .int xx, .int yy] [(ob, .inr (0, [.int wi, .int hi, .int fo, .ref gi, .ref ke, .ref sp, .ref pi, .ref fa])), (gi, .inr (1, [.ref gia, .int gin])), (gia, .inl (cJ, 114, .inr (.inl gif))), (ke, .inr (1, [.ref kea, .int ken])), (kea, .inl (cJ, 114, .inr (.inl kef))), (sp, .inr (1, [.ref spa, .int spn])), (spa, .inl (cJ, 114, .inr (.inl spf))), (pi, .inr (1, [.ref pia, .int pin])), (pia, .inl (cJ, 114, .inr (.inl pif))), (fa, .inr (2, [.ref fas, .ref fat, .ref faa, .int fan])), (fas, .inl (cI, 17, .inl faS)), (fat, .inl (cI, 17, .inl faT)), (faa, .inl (cI, 17, .inl faA))]) (vp_Si (fun r => r = qa_near wi hi ct S T P ix xx yy)) 0 0 (fun _ => False) := by
  have h := c_PC_near l dC dI cJ cI ob wi hi fo gi gia gin gif ke kea ken kef sp spa spn spf pi pia pin pif fa fas fat faa fan faS faT faA ix xx yy
  rw [cl_near hr9] at h
  exact h
set_option maxHeartbeats 4000000 in
set_option maxRecDepth 100000 in
theorem k_PC_number (l : Launch) (dC : Nat → ClassId) (dI : Nat → Nat → Nat) (cJ cI : ClassId) (ob : Nat) (wi : Int32) (hi : Int32) (fo : Int32) (gi : Nat) (gia : Nat) (gin : Int32) (gif : Nat → Int64) (ke : Nat) (kea : Nat) (ken : Int32) (kef : Nat → Int64) (sp : Nat) (spa : Nat) (spn : Int32) (spf : Nat → Int64) (pi : Nat) (pia : Nat) (pin : Int32) (pif : Nat → Int64) (fa : Nat) (fas : Nat) (fat : Nat) (faa : Nat) (fan : Int32) (faS : Nat → Int32) (faT : Nat → Int32) (faA : Nat → Int32) (ct : Nat) (pn : Nat) (S : Nat → Nat) (T : Nat → Nat) (P : Nat → Int64) (ix : Int32) (xx : Int32) (yy : Int32) (wh : Int32) (hr9 : cl_rel pin pif fan faS faT faA ct pn S T P) (hw9 : wi.toInt ≤ 48) (hh9 : hi.toInt ≤ 48) : Met l y_PC_number w_PC_number ({ frames := 5, cells := 0, slots := 0, locals := 127 } : Room) (rq_ro (dC, dI) cJ cI [.ref ob, .int ix, .int xx, .int yy, .int wh] [(ob, .inr (0, [.int wi, .int hi, .int fo, .ref gi, .ref ke, .ref sp, .ref pi, .ref fa])), (gi, .inr (1, [.ref gia, .int gin])), (gia, .inl (cJ, 114, .inr (.inl gif))), (ke, .inr (1, [.ref kea, .int ken])), (kea, .inl (cJ, 114, .inr (.inl kef))), (sp, .inr (1, [.ref spa, .int spn])), (spa, .inl (cJ, 114, .inr (.inl spf))), (pi, .inr (1, [.ref pia, .int pin])), (pia, .inl (cJ, 114, .inr (.inl pif))), (fa, .inr (2, [.ref fas, .ref fat, .ref faa, .int fan])), (fas, .inl (cI, 17, .inl faS)), (fat, .inl (cI, 17, .inl faT)), (faa, .inl (cI, 17, .inl faA))]) (vp_Si (fun r => r = qa_number wi hi ct S T P ix xx yy wh)) 0 0 (fun _ => False) := by
  have h := c_PC_number l dC dI cJ cI ob wi hi fo gi gia gin gif ke kea ken kef sp spa spn spf pi pia pin pif fa fas fat faa fan faS faT faA ix xx yy wh
  rw [cl_number hr9 hw9 hh9] at h
  exact h
end
section
/-! The class's cut, against the pure rings. -/
theorem st_ge {a : Int64} (h : ¬ (a < 0)) : 0 ≤ a := by
  rw [Int64.lt_iff_toInt_lt, Int64.toInt_zero] at h
  rw [Jvm.Kit.i64_nonneg]; omega
theorem st_lt {a : Int64} (h : a < 0) : ¬ 0 ≤ a := by
  rw [Int64.lt_iff_toInt_lt, Int64.toInt_zero] at h
  rw [Jvm.Kit.i64_nonneg]; omega
theorem cb_side {wi hi fo : Int32} {kn c sd : Nat} {f : Nat → Int64} (hn : kn ≤ 19) (hc : c < kn) (hs : sd < 5) : f_PC_sideNumber wi hi fo (nI kn) f (nI c) (nI sd) = pu_side fo wi hi sd f c := by
  unfold f_PC_sideNumber
  rw [ri_at_0 hn hc, ri_at_1 hn hc, ri_at_2 hn hc]
  match sd, hs with
  | 0, _ => rfl
  | 1, _ => rfl
  | 2, _ => rfl
  | 3, _ => rfl
  | 4, _ => rfl
theorem cb_copy {m n c : Nat} {f g : Nat → Int64} (hm : m < 19) (hn : n ≤ 19) (hc : c < n) : f_Ri_addCopy_1 (nI m) f (nI n) g (nI c) = pu_put f m (fun j => g (6 * c + j)) := by
  obtain ⟨e1, e2⟩ := ri_addRow_n hm
  unfold f_Ri_addCopy_1
  rw [e1, e2]
  exact ri_puts (fun j => g (6 * c + j)) (by omega) (by omega) (ri_at_0 hn hc) (ri_at_1 hn hc) (ri_at_2 hn hc) (ri_at_3 hn hc) (ri_at_4 hn hc) (ri_at_5 hn hc)
theorem cb_new {x y a b : Int64} (hd : 0 < (a - b).toInt) : x + f_PC_div ((y - x) * a) (a - b) = pu_btw x y a b := by
  rw [cl_div hd]; rfl
theorem cb_pos {fo wi hi : Int32} (hf : pu_fit fo wi hi) {sd : Nat} {f : Nat → Int64} {p q : Nat} (hp : pu_c3 (f (6 * p)) (f (6 * p + 1)) (f (6 * p + 2))) (hq : pu_c3 (f (6 * q)) (f (6 * q + 1)) (f (6 * q + 2))) (h1 : 0 ≤ pu_side fo wi hi sd f p) (h2 : ¬ 0 ≤ pu_side fo wi hi sd f q) : 0 < (pu_side fo wi hi sd f p - pu_side fo wi hi sd f q).toInt := by
  obtain ⟨a0, b0, e⟩ := pu_btw_d (pu_side_toInt hf sd hp).2 (pu_side_toInt hf sd hq).2 h1 h2
  rw [e]; omega
theorem cb_btw {wi hi fo : Int32} {kn p q m sd : Nat} {f g : Nat → Int64} (hn : kn ≤ 19) (hm : m < 19) (hs : sd < 5) (hp : p < kn) (hq : q < kn) (hd : 0 < (pu_side fo wi hi sd f p - pu_side fo wi hi sd f q).toInt) :
    f_PC_addBetween_6 wi hi fo (nI kn) f (nI m) g (nI p) (nI q) (nI sd) = pu_put g m (pu_new fo wi hi sd f p q) := by
  obtain ⟨e1, e2⟩ := ri_addRow_n hm
  unfold f_PC_addBetween_6
  rw [e1, e2, cb_side hn hp hs, cb_side hn hq hs]
  refine ri_puts (pu_new fo wi hi sd f p q) (by omega) (by omega) ?_ ?_ ?_ ?_ ?_ ?_
  · rw [ri_at_0 hn hp, ri_at_0 hn hq]; exact cb_new hd
  · rw [ri_at_1 hn hp, ri_at_1 hn hq]; exact cb_new hd
  · rw [ri_at_2 hn hp, ri_at_2 hn hq]; exact cb_new hd
  · rw [ri_at_3 hn hp, ri_at_3 hn hq]; exact cb_new hd
  · rw [ri_at_4 hn hp, ri_at_4 hn hq]; exact cb_new hd
  · rw [ri_at_5 hn hp, ri_at_5 hn hq]; exact cb_new hd
theorem cb_top {fo wi hi : Int32} {sd n k : Nat} {R N0 : Nat → Int64} (hk : k < n) (hn : n ≤ 13) : (pu_cs fo wi hi sd n R N0 (k + 1)).1 ≤ 19 := by
  have h1 := pu_cs_mono (fo := fo) (w := wi) (h := hi) (sd := sd) (n := n) (R := R) (N0 := N0) (show k + 1 ≤ n by omega)
  have h2 := pu_cs_most (fo := fo) (w := wi) (h := hi) (sd := sd) (n := n) (R := R) (N0 := N0)
  omega
theorem cb_c3 {fo wi hi : Int32} (hf : pu_fit fo wi hi) {G f : Nat → Int64} (hG : pu_given G) {s n : Nat} (hn : n = (pu_ring fo wi hi G s).1) (hR : ∀ j, j < 6 * n → f j = (pu_ring fo wi hi G s).2 j) : ∀ c, c < n → pu_inv fo wi hi s (f (6 * c)) (f (6 * c + 1)) (f (6 * c + 2)) := by
  intro c hc
  rw [hR (6 * c) (by omega), hR (6 * c + 1) (by omega), hR (6 * c + 2) (by omega)]
  exact pu_ring_inv hf hG s c (by omega)
theorem cb_add {fm : Nat} (h : fm < 17) {faS faT faA : Nat → Int32} {se th : Int32} {ar : Int64} : f_Fa_add_0_3 (nI fm) = nI (fm + 1) ∧ f_Fa_add_1 (nI fm) faS se = upd faS fm se ∧ f_Fa_add_2 (nI fm) faT th = upd faT fm th ∧ f_Fa_add_3 (nI fm) faA ar = upd faA fm ar.toInt32 := by
  have h0 : ¬ nI fm < 0 := nI_pos (by omega)
  have h1 : ¬ 17 ≤ nI fm := by rw [show (17 : Int32) = nI 17 from rfl, nI_leI (by decide) (by omega)]; omega
  unfold f_Fa_add_0_3 f_Fa_add_1 f_Fa_add_2 f_Fa_add_3
  rw [if_neg h0, if_neg h1, if_neg h0, if_neg h1, if_neg h0, if_neg h1, if_neg h0, if_neg h1, nI_1, nI_clamp (by omega)]
  exact ⟨rfl, rfl, rfl, rfl⟩
theorem cb_area {pn a b : Nat} {P : Nat → Int64} (hn : pn ≤ 19) (ha : a < pn) (hb : b < pn) : f_PC_areaWith (nI pn) P (nI a) (nI b) = pu_ar P a b := by
  unfold f_PC_areaWith
  rw [show (0 : Int32) = nI 0 from rfl, ri_at_v (k := 0) hn ha (by decide), ri_at_v (k := 0) hn hb (by decide), show f_Ri_at (nI pn) P (nI 0) (nI 0) = P 0 from ri_at_v (k := 0) (c := 0) hn (by omega) (by decide), ri_at_1 hn ha, ri_at_1 hn hb, show f_Ri_at (nI pn) P (nI 0) 1 = P 1 from ri_at_v (k := 1) (c := 0) hn (by omega) (by decide)]
  rfl
theorem gt_0 {a : Int64} (h : ¬ (a ≤ 0)) : 0 < a := by
  rw [Int64.le_iff_toInt_le, Int64.toInt_zero] at h
  rw [Int64.lt_iff_toInt_lt, Int64.toInt_zero]; omega
theorem gt_n {a : Int64} (h : a ≤ 0) : ¬ 0 < a := by
  rw [Int64.le_iff_toInt_le, Int64.toInt_zero] at h
  rw [Int64.lt_iff_toInt_lt, Int64.toInt_zero]; omega
theorem lt_n {a : Int64} (h : 0 ≤ a) : ¬ a < 0 := by
  rw [Jvm.Kit.i64_nonneg] at h
  rw [Int64.lt_iff_toInt_lt, Int64.toInt_zero]; omega
theorem lt_y {a : Int64} (h : ¬ (0 ≤ a)) : a < 0 := by
  rw [Jvm.Kit.i64_nonneg] at h
  rw [Int64.lt_iff_toInt_lt, Int64.toInt_zero]; omega
theorem cb_final {bo fo wi hi : Int32} (hf : pu_fit fo wi hi) {G f N0 : Nat → Int64} {S0 T0 A0 : Nat → Int32} (hG : pu_given G) (hR : ∀ j, j < 6 * (pu_ring fo wi hi G 5).1 → f j = (pu_ring fo wi hi G 5).2 j) :
    (pu_fan bo (pu_pics fo wi hi f N0 (pu_ring fo wi hi G 5).1) S0 T0 A0 ((pu_ring fo wi hi G 5).1 - 2)).1 = (pu_cutF (decide (¬ bo = 0)) fo wi hi G).1 ∧
    cl_rel (nI (pu_cutR fo wi hi G).1) (pu_pics fo wi hi f N0 (pu_ring fo wi hi G 5).1) (nI (pu_cutF (decide (¬ bo = 0)) fo wi hi G).1) (pu_fan bo (pu_pics fo wi hi f N0 (pu_ring fo wi hi G 5).1) S0 T0 A0 ((pu_ring fo wi hi G 5).1 - 2)).2.1 (pu_fan bo (pu_pics fo wi hi f N0 (pu_ring fo wi hi G 5).1) S0 T0 A0 ((pu_ring fo wi hi G 5).1 - 2)).2.2.1 (pu_fan bo (pu_pics fo wi hi f N0 (pu_ring fo wi hi G 5).1) S0 T0 A0 ((pu_ring fo wi hi G 5).1 - 2)).2.2.2 (pu_cutF (decide (¬ bo = 0)) fo wi hi G).1 (pu_cutR fo wi hi G).1 (pu_cutF (decide (¬ bo = 0)) fo wi hi G).2.1 (pu_cutF (decide (¬ bo = 0)) fo wi hi G).2.2 (pu_cutP fo wi hi G) := by
  have hp : ∀ j, j < 6 * (pu_ring fo wi hi G 5).1 → pu_pics fo wi hi f N0 (pu_ring fo wi hi G 5).1 j = pu_cutP fo wi hi G j := by
    intro j hj
    rw [pu_pics_at _ j hj]
    exact pu_pic_congr hR hj
  obtain ⟨q1, q2⟩ := pu_fan_pcs (bo := bo) (S0 := S0) (T0 := T0) (A0 := A0) hp ((pu_ring fo wi hi G 5).1 - 2) (by omega)
  exact ⟨q1, rfl, rfl, hp, pu_cut_ok hf hG, q2⟩
theorem cb_start {fo wi hi : Int32} {G N0 : Nat → Int64} : ∀ j, j < 6 * 3 → pu_put (pu_put (pu_put N0 0 (fun j => G (6 * 0 + j))) (0 + 1) (fun j => G (6 * 1 + j))) (0 + 1 + 1) (fun j => G (6 * 2 + j)) j = (pu_ring fo wi hi G 0).2 j := by
  intro j hj
  show _ = G j
  unfold pu_put
  by_cases h2 : j / 6 = 0 + 1 + 1
  · rw [if_pos h2]; exact congrArg G (by omega)
  · rw [if_neg h2]
    by_cases h1 : j / 6 = 0 + 1
    · rw [if_pos h1]; exact congrArg G (by omega)
    · rw [if_neg h1, if_pos (by omega)]; exact congrArg G (by omega)
end
section
set_option maxHeartbeats 4000000 in
set_option maxRecDepth 100000 in
theorem k_PC_sideNumber (l : Launch) (dC : Nat → ClassId) (dI : Nat → Nat → Nat) (cJ cI : ClassId) (ob : Nat) (wi : Int32) (hi : Int32) (fo : Int32) (gi : Nat) (gia : Nat) (gin : Int32) (gif : Nat → Int64) (ke : Nat) (kea : Nat) (kn : Nat) (kef : Nat → Int64) (sp : Nat) (spa : Nat) (spn : Int32) (spf : Nat → Int64) (pi : Nat) (pia : Nat) (pin : Int32) (pif : Nat → Int64) (fa : Nat) (fas : Nat) (fat : Nat) (faa : Nat) (fan : Int32) (faS : Nat → Int32) (faT : Nat → Int32) (faA : Nat → Int32) (ci : Nat) (sd : Nat) (hn9 : kn ≤ 19) (hc9 : ci < kn) (hs9 : sd < 5) : Met l y_PC_sideNumber w_PC_sideNumber ({ frames := 2, cells := 0, slots := 0, locals := 43 } : Room) (rq_ro (dC, dI) cJ cI [.ref ob, .int (nI ci), .int (nI sd)] [(ob, .inr (0, [.int wi, .int hi, .int fo, .ref gi, .ref ke, .ref sp, .ref pi, .ref fa])), (gi, .inr (1, [.ref gia, .int gin])), (gia, .inl (cJ, 114, .inr (.inl gif))), (ke, .inr (1, [.ref kea, .int (nI kn)])), (kea, .inl (cJ, 114, .inr (.inl kef))), (sp, .inr (1, [.ref spa, .int spn])), (spa, .inl (cJ, 114, .inr (.inl spf))), (pi, .inr (1, [.ref pia, .int pin])), (pia, .inl (cJ, 114, .inr (.inl pif))), (fa, .inr (2, [.ref fas, .ref fat, .ref faa, .int fan])), (fas, .inl (cI, 17, .inl faS)), (fat, .inl (cI, 17, .inl faT)), (faa, .inl (cI, 17, .inl faA))]) (vp_Sl (fun r => r = pu_side fo wi hi sd kef ci)) 0 0 (fun _ => False) := by
  have h := c_PC_sideNumber l dC dI cJ cI ob wi hi fo gi gia gin gif ke kea (nI kn) kef sp spa spn spf pi pia pin pif fa fas fat faa fan faS faT faA (nI ci) (nI sd)
  rw [cb_side hn9 hc9 hs9] at h
  exact h
set_option maxHeartbeats 4000000 in
set_option maxRecDepth 100000 in
theorem k_Ri_addCopy (l : Launch) (dC : Nat → ClassId) (dI : Nat → Nat → Nat) (cJ cI : ClassId) (sz : Nat) (ri : Nat) (ria : Nat) (rm : Nat) (rif : Nat → Int64) (ot : Nat) (ota : Nat) (on : Nat) (otf : Nat → Int64) (ci : Nat) (hm9 : rm < 19) (hn9 : on ≤ 19) (hc9 : ci < on) : Met l y_Ri_addCopy w_Ri_addCopy ({ frames := 2, cells := 0, slots := 0, locals := 45 } : Room) (rq_rw (dC, dI) cJ cI sz [.ref ri, .ref ot, .int (nI ci)] [(ri, .inr (1, [.ref ria, .int (nI rm)])), (ria, .inl (cJ, 114, .inr (.inl rif))), (ot, .inr (1, [.ref ota, .int (nI on)])), (ota, .inl (cJ, 114, .inr (.inl otf)))]) (va_Qv (fun _ : Unit => True) (rz (dC, dI) (va_A [(ri, .inr (1, [.ref ria, .int (nI rm)])), (ria, .inl (cJ, 114, .inr (.inl rif))), (ot, .inr (1, [.ref ota, .int (nI on)])), (ota, .inl (cJ, 114, .inr (.inl otf)))] sz) [(ri, .inr (1, [.ref ria, .int (nI (rm + 1))])), (ria, .inl (cJ, 114, .inr (.inl (pu_put rif rm (fun j => otf (6 * ci + j)))))), (ot, .inr (1, [.ref ota, .int (nI on)])), (ota, .inl (cJ, 114, .inr (.inl otf)))]) (va_A [(ri, .inr (1, [.ref ria, .int (nI rm)])), (ria, .inl (cJ, 114, .inr (.inl rif))), (ot, .inr (1, [.ref ota, .int (nI on)])), (ota, .inl (cJ, 114, .inr (.inl otf)))] sz)) 0 0 (va_A [(ri, .inr (1, [.ref ria, .int (nI rm)])), (ria, .inl (cJ, 114, .inr (.inl rif))), (ot, .inr (1, [.ref ota, .int (nI on)])), (ota, .inl (cJ, 114, .inr (.inl otf)))] sz) := by
  have h := c_Ri_addCopy l dC dI cJ cI sz ri ria (nI rm) rif ot ota (nI on) otf (nI ci)
  rw [cb_copy hm9 hn9 hc9, (ri_addRow_n hm9).1] at h
  exact h
set_option maxHeartbeats 4000000 in
set_option maxRecDepth 100000 in
theorem k_PC_addBetween (l : Launch) (dC : Nat → ClassId) (dI : Nat → Nat → Nat) (cJ cI : ClassId) (sz : Nat) (ob : Nat) (wi : Int32) (hi : Int32) (fo : Int32) (gi : Nat) (gia : Nat) (gin : Int32) (gif : Nat → Int64) (ke : Nat) (kea : Nat) (kn : Nat) (kef : Nat → Int64) (sp : Nat) (spa : Nat) (sm : Nat) (spf : Nat → Int64) (pi : Nat) (pia : Nat) (pin : Int32) (pif : Nat → Int64) (fa : Nat) (fas : Nat) (fat : Nat) (faa : Nat) (fan : Int32) (faS : Nat → Int32) (faT : Nat → Int32) (faA : Nat → Int32) (pp : Nat) (qq : Nat) (sd : Nat) (hn9 : kn ≤ 19) (hm9 : sm < 19) (hs9 : sd < 5) (hp9 : pp < kn) (hq9 : qq < kn) (hd9 : 0 < (pu_side fo wi hi sd kef pp - pu_side fo wi hi sd kef qq).toInt) : Met l y_PC_addBetween w_PC_addBetween ({ frames := 3, cells := 0, slots := 0, locals := 71 } : Room) (rq_rw (dC, dI) cJ cI sz [.ref ob, .int (nI pp), .int (nI qq), .int (nI sd)] [(ob, .inr (0, [.int wi, .int hi, .int fo, .ref gi, .ref ke, .ref sp, .ref pi, .ref fa])), (gi, .inr (1, [.ref gia, .int gin])), (gia, .inl (cJ, 114, .inr (.inl gif))), (ke, .inr (1, [.ref kea, .int (nI kn)])), (kea, .inl (cJ, 114, .inr (.inl kef))), (sp, .inr (1, [.ref spa, .int (nI sm)])), (spa, .inl (cJ, 114, .inr (.inl spf))), (pi, .inr (1, [.ref pia, .int pin])), (pia, .inl (cJ, 114, .inr (.inl pif))), (fa, .inr (2, [.ref fas, .ref fat, .ref faa, .int fan])), (fas, .inl (cI, 17, .inl faS)), (fat, .inl (cI, 17, .inl faT)), (faa, .inl (cI, 17, .inl faA))]) (va_Qv (fun _ : Unit => True) (rz (dC, dI) (va_A [(ob, .inr (0, [.int wi, .int hi, .int fo, .ref gi, .ref ke, .ref sp, .ref pi, .ref fa])), (gi, .inr (1, [.ref gia, .int gin])), (gia, .inl (cJ, 114, .inr (.inl gif))), (ke, .inr (1, [.ref kea, .int (nI kn)])), (kea, .inl (cJ, 114, .inr (.inl kef))), (sp, .inr (1, [.ref spa, .int (nI sm)])), (spa, .inl (cJ, 114, .inr (.inl spf))), (pi, .inr (1, [.ref pia, .int pin])), (pia, .inl (cJ, 114, .inr (.inl pif))), (fa, .inr (2, [.ref fas, .ref fat, .ref faa, .int fan])), (fas, .inl (cI, 17, .inl faS)), (fat, .inl (cI, 17, .inl faT)), (faa, .inl (cI, 17, .inl faA))] sz) [(ob, .inr (0, [.int wi, .int hi, .int fo, .ref gi, .ref ke, .ref sp, .ref pi, .ref fa])), (gi, .inr (1, [.ref gia, .int gin])), (gia, .inl (cJ, 114, .inr (.inl gif))), (ke, .inr (1, [.ref kea, .int (nI kn)])), (kea, .inl (cJ, 114, .inr (.inl kef))), (sp, .inr (1, [.ref spa, .int (nI (sm + 1))])), (spa, .inl (cJ, 114, .inr (.inl (pu_put spf sm (pu_new fo wi hi sd kef pp qq))))), (pi, .inr (1, [.ref pia, .int pin])), (pia, .inl (cJ, 114, .inr (.inl pif))), (fa, .inr (2, [.ref fas, .ref fat, .ref faa, .int fan])), (fas, .inl (cI, 17, .inl faS)), (fat, .inl (cI, 17, .inl faT)), (faa, .inl (cI, 17, .inl faA))]) (va_A [(ob, .inr (0, [.int wi, .int hi, .int fo, .ref gi, .ref ke, .ref sp, .ref pi, .ref fa])), (gi, .inr (1, [.ref gia, .int gin])), (gia, .inl (cJ, 114, .inr (.inl gif))), (ke, .inr (1, [.ref kea, .int (nI kn)])), (kea, .inl (cJ, 114, .inr (.inl kef))), (sp, .inr (1, [.ref spa, .int (nI sm)])), (spa, .inl (cJ, 114, .inr (.inl spf))), (pi, .inr (1, [.ref pia, .int pin])), (pia, .inl (cJ, 114, .inr (.inl pif))), (fa, .inr (2, [.ref fas, .ref fat, .ref faa, .int fan])), (fas, .inl (cI, 17, .inl faS)), (fat, .inl (cI, 17, .inl faT)), (faa, .inl (cI, 17, .inl faA))] sz)) 0 0 (va_A [(ob, .inr (0, [.int wi, .int hi, .int fo, .ref gi, .ref ke, .ref sp, .ref pi, .ref fa])), (gi, .inr (1, [.ref gia, .int gin])), (gia, .inl (cJ, 114, .inr (.inl gif))), (ke, .inr (1, [.ref kea, .int (nI kn)])), (kea, .inl (cJ, 114, .inr (.inl kef))), (sp, .inr (1, [.ref spa, .int (nI sm)])), (spa, .inl (cJ, 114, .inr (.inl spf))), (pi, .inr (1, [.ref pia, .int pin])), (pia, .inl (cJ, 114, .inr (.inl pif))), (fa, .inr (2, [.ref fas, .ref fat, .ref faa, .int fan])), (fas, .inl (cI, 17, .inl faS)), (fat, .inl (cI, 17, .inl faT)), (faa, .inl (cI, 17, .inl faA))] sz) := by
  have h := c_PC_addBetween l dC dI cJ cI sz ob wi hi fo gi gia gin gif ke kea (nI kn) kef sp spa (nI sm) spf pi pia pin pif fa fas fat faa fan faS faT faA (nI pp) (nI qq) (nI sd)
  rw [cb_btw hn9 hm9 hs9 hp9 hq9 hd9, (ri_addRow_n hm9).1] at h
  exact h
set_option maxHeartbeats 4000000 in
set_option maxRecDepth 100000 in
theorem k_Ri_at (l : Launch) (dC : Nat → ClassId) (dI : Nat → Nat → Nat) (cJ cI : ClassId) (ri : Nat) (ria : Nat) (rm : Nat) (rif : Nat → Int64) (ci : Nat) (wc : Nat) (hn9 : rm ≤ 19) (hc9 : ci < rm) (hw9 : wc < 6) : Met l y_Ri_at w_Ri_at ({ frames := 1, cells := 0, slots := 0, locals := 21 } : Room) (rq_ro (dC, dI) cJ cI [.ref ri, .int (nI ci), .int (nI wc)] [(ri, .inr (1, [.ref ria, .int (nI rm)])), (ria, .inl (cJ, 114, .inr (.inl rif)))]) (vp_Sl (fun r => r = rif (6 * ci + wc))) 0 0 (fun _ => False) := by
  have h := c_Ri_at l dC dI cJ cI ri ria (nI rm) rif (nI ci) (nI wc)
  rw [ri_at_v hn9 hc9 hw9] at h
  exact h
set_option maxHeartbeats 4000000 in
set_option maxRecDepth 100000 in
theorem k_Ri_put (l : Launch) (dC : Nat → ClassId) (dI : Nat → Nat → Nat) (cJ cI : ClassId) (sz : Nat) (ri : Nat) (ria : Nat) (rm : Nat) (rif : Nat → Int64) (ci : Nat) (wc : Nat) (va : Int64) (hn9 : rm ≤ 19) (hc9 : ci < rm) (hw9 : wc < 6) : Met l y_Ri_put w_Ri_put ({ frames := 1, cells := 0, slots := 0, locals := 21 } : Room) (rq_rw (dC, dI) cJ cI sz [.ref ri, .int (nI ci), .int (nI wc), .long va] [(ri, .inr (1, [.ref ria, .int (nI rm)])), (ria, .inl (cJ, 114, .inr (.inl rif)))]) (va_Qv (fun _ : Unit => True) (rz (dC, dI) (va_A [(ri, .inr (1, [.ref ria, .int (nI rm)])), (ria, .inl (cJ, 114, .inr (.inl rif)))] sz) [(ri, .inr (1, [.ref ria, .int (nI rm)])), (ria, .inl (cJ, 114, .inr (.inl (vp_updL rif (6 * ci + wc) va))))]) (va_A [(ri, .inr (1, [.ref ria, .int (nI rm)])), (ria, .inl (cJ, 114, .inr (.inl rif)))] sz)) 0 0 (va_A [(ri, .inr (1, [.ref ria, .int (nI rm)])), (ria, .inl (cJ, 114, .inr (.inl rif)))] sz) := by
  have h := c_Ri_put l dC dI cJ cI sz ri ria (nI rm) rif (nI ci) (nI wc) va
  rw [ri_put_v hn9 hc9 hw9] at h
  exact h
set_option maxHeartbeats 4000000 in
set_option maxRecDepth 100000 in
theorem k_PC_div (l : Launch) (dC : Nat → ClassId) (dI : Nat → Nat → Nat) (cJ cI : ClassId) (xx : Int64) (yy : Int64) (hd9 : 0 < yy.toInt) : Met l y_PC_div w_PC_div ({ frames := 1, cells := 0, slots := 0, locals := 25 } : Room) (rq_ro (dC, dI) cJ cI [.long xx, .long yy] []) (vp_Sl (fun r => r = pu_div xx yy)) 0 0 (fun _ => False) := by
  have h := c_PC_div l dC dI cJ cI xx yy
  rw [cl_div hd9] at h
  exact h
set_option maxHeartbeats 4000000 in
set_option maxRecDepth 100000 in
theorem k_PC_areaWith (l : Launch) (dC : Nat → ClassId) (dI : Nat → Nat → Nat) (cJ cI : ClassId) (ob : Nat) (wi : Int32) (hi : Int32) (fo : Int32) (gi : Nat) (gia : Nat) (gin : Int32) (gif : Nat → Int64) (ke : Nat) (kea : Nat) (ken : Int32) (kef : Nat → Int64) (sp : Nat) (spa : Nat) (spn : Int32) (spf : Nat → Int64) (pi : Nat) (pia : Nat) (pm : Nat) (pif : Nat → Int64) (fa : Nat) (fas : Nat) (fat : Nat) (faa : Nat) (fan : Int32) (faS : Nat → Int32) (faT : Nat → Int32) (faA : Nat → Int32) (aa : Nat) (bb : Nat) (hn9 : pm ≤ 19) (ha9 : aa < pm) (hb9 : bb < pm) : Met l y_PC_areaWith w_PC_areaWith ({ frames := 2, cells := 0, slots := 0, locals := 43 } : Room) (rq_ro (dC, dI) cJ cI [.ref ob, .int (nI aa), .int (nI bb)] [(ob, .inr (0, [.int wi, .int hi, .int fo, .ref gi, .ref ke, .ref sp, .ref pi, .ref fa])), (gi, .inr (1, [.ref gia, .int gin])), (gia, .inl (cJ, 114, .inr (.inl gif))), (ke, .inr (1, [.ref kea, .int ken])), (kea, .inl (cJ, 114, .inr (.inl kef))), (sp, .inr (1, [.ref spa, .int spn])), (spa, .inl (cJ, 114, .inr (.inl spf))), (pi, .inr (1, [.ref pia, .int (nI pm)])), (pia, .inl (cJ, 114, .inr (.inl pif))), (fa, .inr (2, [.ref fas, .ref fat, .ref faa, .int fan])), (fas, .inl (cI, 17, .inl faS)), (fat, .inl (cI, 17, .inl faT)), (faa, .inl (cI, 17, .inl faA))]) (vp_Sl (fun r => r = pu_ar pif aa bb)) 0 0 (fun _ => False) := by
  have h := c_PC_areaWith l dC dI cJ cI ob wi hi fo gi gia gin gif ke kea ken kef sp spa spn spf pi pia (nI pm) pif fa fas fat faa fan faS faT faA (nI aa) (nI bb)
  rw [cb_area hn9 ha9 hb9] at h
  exact h
set_option maxHeartbeats 4000000 in
set_option maxRecDepth 100000 in
theorem k_Fa_add (l : Launch) (dC : Nat → ClassId) (dI : Nat → Nat → Nat) (cJ cI : ClassId) (sz : Nat) (fa : Nat) (fas : Nat) (fat : Nat) (faa : Nat) (fm : Nat) (faS : Nat → Int32) (faT : Nat → Int32) (faA : Nat → Int32) (se : Int32) (th : Int32) (ar : Int64) (hf9 : fm < 17) : Met l y_Fa_add w_Fa_add ({ frames := 0, cells := 0, slots := 0, locals := 0 } : Room) (rq_rw (dC, dI) cJ cI sz [.ref fa, .int se, .int th, .long ar] [(fa, .inr (2, [.ref fas, .ref fat, .ref faa, .int (nI fm)])), (fas, .inl (cI, 17, .inl faS)), (fat, .inl (cI, 17, .inl faT)), (faa, .inl (cI, 17, .inl faA))]) (va_Qv (fun _ : Unit => True) (rz (dC, dI) (va_A [(fa, .inr (2, [.ref fas, .ref fat, .ref faa, .int (nI fm)])), (fas, .inl (cI, 17, .inl faS)), (fat, .inl (cI, 17, .inl faT)), (faa, .inl (cI, 17, .inl faA))] sz) [(fa, .inr (2, [.ref fas, .ref fat, .ref faa, .int (nI (fm + 1))])), (fas, .inl (cI, 17, .inl (upd faS fm se))), (fat, .inl (cI, 17, .inl (upd faT fm th))), (faa, .inl (cI, 17, .inl (upd faA fm ar.toInt32)))]) (va_A [(fa, .inr (2, [.ref fas, .ref fat, .ref faa, .int (nI fm)])), (fas, .inl (cI, 17, .inl faS)), (fat, .inl (cI, 17, .inl faT)), (faa, .inl (cI, 17, .inl faA))] sz)) 0 0 (va_A [(fa, .inr (2, [.ref fas, .ref fat, .ref faa, .int (nI fm)])), (fas, .inl (cI, 17, .inl faS)), (fat, .inl (cI, 17, .inl faT)), (faa, .inl (cI, 17, .inl faA))] sz) := by
  have h := c_Fa_add l dC dI cJ cI sz fa fas fat faa (nI fm) faS faT faA se th ar
  rw [(cb_add hf9 (faS := faS) (faT := faT) (faA := faA) (se := se) (th := th) (ar := ar)).1, (cb_add hf9 (faS := faS) (faT := faT) (faA := faA) (se := se) (th := th) (ar := ar)).2.1, (cb_add hf9 (faS := faS) (faT := faT) (faA := faA) (se := se) (th := th) (ar := ar)).2.2.1, (cb_add hf9 (faS := faS) (faT := faT) (faA := faA) (se := se) (th := th) (ar := ar)).2.2.2] at h
  exact h
end
section
set_option maxHeartbeats 4000000 in
set_option maxRecDepth 100000 in
theorem c_PC_cutBySide (l : Launch) (dC : Nat → ClassId) (dI : Nat → Nat → Nat) (cJ cI : ClassId) (sz : Nat) (ob : Nat) (wi : Int32) (hi : Int32) (fo : Int32) (gi : Nat) (gia : Nat) (gin : Int32) (gif : Nat → Int64) (ke : Nat) (kea : Nat) (kn : Nat) (kef : Nat → Int64) (sp : Nat) (spa : Nat) (spn : Int32) (spf : Nat → Int64) (pi : Nat) (pia : Nat) (pin : Int32) (pif : Nat → Int64) (fa : Nat) (fas : Nat) (fat : Nat) (faa : Nat) (fan : Int32) (faS : Nat → Int32) (faT : Nat → Int32) (faA : Nat → Int32) (sd : Nat) (hkn : kn ≤ 13) (hsd : sd < 5) (hfit : pu_fit fo wi hi) (hc3 : ∀ c, c < kn → pu_c3 (kef (6 * c)) (kef (6 * c + 1)) (kef (6 * c + 2))) : Met l y_PC_cutBySide w_PC_cutBySide ({ frames := 4, cells := 0, slots := 0, locals := 104 } : Room) (rq_rw (dC, dI) cJ cI sz [.ref ob, .int (nI sd)] [(ob, .inr (0, [.int wi, .int hi, .int fo, .ref gi, .ref ke, .ref sp, .ref pi, .ref fa])), (gi, .inr (1, [.ref gia, .int gin])), (gia, .inl (cJ, 114, .inr (.inl gif))), (ke, .inr (1, [.ref kea, .int (nI kn)])), (kea, .inl (cJ, 114, .inr (.inl kef))), (sp, .inr (1, [.ref spa, .int spn])), (spa, .inl (cJ, 114, .inr (.inl spf))), (pi, .inr (1, [.ref pia, .int pin])), (pia, .inl (cJ, 114, .inr (.inl pif))), (fa, .inr (2, [.ref fas, .ref fat, .ref faa, .int fan])), (fas, .inl (cI, 17, .inl faS)), (fat, .inl (cI, 17, .inl faT)), (faa, .inl (cI, 17, .inl faA))]) (va_Qv (fun _ : Unit => True) (rz (dC, dI) (va_A [(ob, .inr (0, [.int wi, .int hi, .int fo, .ref gi, .ref ke, .ref sp, .ref pi, .ref fa])), (gi, .inr (1, [.ref gia, .int gin])), (gia, .inl (cJ, 114, .inr (.inl gif))), (ke, .inr (1, [.ref kea, .int (nI kn)])), (kea, .inl (cJ, 114, .inr (.inl kef))), (sp, .inr (1, [.ref spa, .int spn])), (spa, .inl (cJ, 114, .inr (.inl spf))), (pi, .inr (1, [.ref pia, .int pin])), (pia, .inl (cJ, 114, .inr (.inl pif))), (fa, .inr (2, [.ref fas, .ref fat, .ref faa, .int fan])), (fas, .inl (cI, 17, .inl faS)), (fat, .inl (cI, 17, .inl faT)), (faa, .inl (cI, 17, .inl faA))] sz) [(ob, .inr (0, [.int wi, .int hi, .int fo, .ref gi, .ref sp, .ref ke, .ref pi, .ref fa])), (gi, .inr (1, [.ref gia, .int gin])), (gia, .inl (cJ, 114, .inr (.inl gif))), (ke, .inr (1, [.ref kea, .int (nI kn)])), (kea, .inl (cJ, 114, .inr (.inl kef))), (sp, .inr (1, [.ref spa, .int (nI (pu_cs fo wi hi sd kn kef spf kn).1)])), (spa, .inl (cJ, 114, .inr (.inl ((pu_cs fo wi hi sd kn kef spf kn).2)))), (pi, .inr (1, [.ref pia, .int pin])), (pia, .inl (cJ, 114, .inr (.inl pif))), (fa, .inr (2, [.ref fas, .ref fat, .ref faa, .int fan])), (fas, .inl (cI, 17, .inl faS)), (fat, .inl (cI, 17, .inl faT)), (faa, .inl (cI, 17, .inl faA))]) (va_A [(ob, .inr (0, [.int wi, .int hi, .int fo, .ref gi, .ref ke, .ref sp, .ref pi, .ref fa])), (gi, .inr (1, [.ref gia, .int gin])), (gia, .inl (cJ, 114, .inr (.inl gif))), (ke, .inr (1, [.ref kea, .int (nI kn)])), (kea, .inl (cJ, 114, .inr (.inl kef))), (sp, .inr (1, [.ref spa, .int spn])), (spa, .inl (cJ, 114, .inr (.inl spf))), (pi, .inr (1, [.ref pia, .int pin])), (pia, .inl (cJ, 114, .inr (.inl pif))), (fa, .inr (2, [.ref fas, .ref fat, .ref faa, .int fan])), (fas, .inl (cI, 17, .inl faS)), (fat, .inl (cI, 17, .inl faT)), (faa, .inl (cI, 17, .inl faA))] sz)) 0 0 (va_A [(ob, .inr (0, [.int wi, .int hi, .int fo, .ref gi, .ref ke, .ref sp, .ref pi, .ref fa])), (gi, .inr (1, [.ref gia, .int gin])), (gia, .inl (cJ, 114, .inr (.inl gif))), (ke, .inr (1, [.ref kea, .int (nI kn)])), (kea, .inl (cJ, 114, .inr (.inl kef))), (sp, .inr (1, [.ref spa, .int spn])), (spa, .inl (cJ, 114, .inr (.inl spf))), (pi, .inr (1, [.ref pia, .int pin])), (pia, .inl (cJ, 114, .inr (.inl pif))), (fa, .inr (2, [.ref fas, .ref fat, .ref faa, .int fan])), (fas, .inl (cI, 17, .inl faS)), (fat, .inl (cI, 17, .inl faT)), (faa, .inl (cI, 17, .inl faA))] sz) := by
  refine Met.ofW (cc := b_PC_cutBySide) (maxL := 6) (ret := none) (by decide) rfl ?_
  intro p e s m args below meth c s₁ B hml hv
  obtain ⟨rfl, hsz, hP, hK, hN, hD0⟩ := hv
  have hx := B.exec
  have hb := B.bytes
  have hr := B.returns
  have hts := atoms_spec (ws := w_PC_cutBySide) B.pre
  have hown : s.vm.findClass R_PC = some m.cls := findClass_of_methodNamed B.named
  have hlocks := B.notSynchronized
  subst hsz
  have hD := hD0.self (sz := s.heap.size)
  generalize hAe : va_A [(ob, .inr (0, [.int wi, .int hi, .int fo, .ref gi, .ref ke, .ref sp, .ref pi, .ref fa])), (gi, .inr (1, [.ref gia, .int gin])), (gia, .inl (cJ, 114, .inr (.inl gif))), (ke, .inr (1, [.ref kea, .int (nI kn)])), (kea, .inl (cJ, 114, .inr (.inl kef))), (sp, .inr (1, [.ref spa, .int spn])), (spa, .inl (cJ, 114, .inr (.inl spf))), (pi, .inr (1, [.ref pia, .int pin])), (pia, .inl (cJ, 114, .inr (.inl pif))), (fa, .inr (2, [.ref fas, .ref fat, .ref faa, .int fan])), (fas, .inl (cI, 17, .inl faS)), (fat, .inl (cI, 17, .inl faT)), (faa, .inl (cI, 17, .inl faA))] s.heap.size = A at hD ⊢
  have hA : ∀ q : Nat, s.heap.size ≤ q → A q := fun q h => by rw [← hAe]; exact Or.inr h
  have hS : va_S A s.heap s.heap [] := va_S.rf
  have hl := lv_entry ([.ref ob, .int (nI sd)]) (n := 6) (Nat.le_of_ble_eq_true rfl)
  rw [lg_entry_eq]
  generalize (lg_sl ([.ref ob, .int (nI sd)]) ++ List.replicate (6 - (lg_sl ([.ref ob, .int (nI sd)])).length) Slot.unset).toArray = ls at hl ⊢
  have hl : lv_has ls 6 [(0, .ref ob), (1, .int (nI sd))] := hl
  have hP : va_P (dC, dI) cls4 [(ob, .inr (0, [.int wi, .int hi, .int fo, .ref gi, .ref ke, .ref sp, .ref pi, .ref fa])), (gi, .inr (1, [.ref gia, .int gin])), (gia, .inl (cJ, 114, .inr (.inl gif))), (ke, .inr (1, [.ref kea, .int (nI kn)])), (kea, .inl (cJ, 114, .inr (.inl kef))), (sp, .inr (1, [.ref spa, .int spn])), (spa, .inl (cJ, 114, .inr (.inl spf))), (pi, .inr (1, [.ref pia, .int pin])), (pia, .inl (cJ, 114, .inr (.inl pif))), (fa, .inr (2, [.ref fas, .ref fat, .ref faa, .int fan])), (fas, .inl (cI, 17, .inl faS)), (fat, .inl (cI, 17, .inl faT)), (faa, .inl (cI, 17, .inl faA))] s.heap := hP
  have LOOP : ∀ (n : Nat) (k : Nat), (k ≤ kn) → (kn + 1 ≤ k + n) → ∀ (H : Heap) (locs : List Loc), va_P (dC, dI) cls4 [(ob, .inr (0, [.int wi, .int hi, .int fo, .ref gi, .ref ke, .ref sp, .ref pi, .ref fa])), (gi, .inr (1, [.ref gia, .int gin])), (gia, .inl (cJ, 114, .inr (.inl gif))), (ke, .inr (1, [.ref kea, .int (nI kn)])), (kea, .inl (cJ, 114, .inr (.inl kef))), (sp, .inr (1, [.ref spa, .int (nI (pu_cs fo wi hi sd kn kef spf k).1)])), (spa, .inl (cJ, 114, .inr (.inl ((pu_cs fo wi hi sd kn kef spf k).2)))), (pi, .inr (1, [.ref pia, .int pin])), (pia, .inl (cJ, 114, .inr (.inl pif))), (fa, .inr (2, [.ref fas, .ref fat, .ref faa, .int fan])), (fas, .inl (cI, 17, .inl faS)), (fat, .inl (cI, 17, .inl faT)), (faa, .inl (cI, 17, .inl faA))] H → va_D A [(ob, .inr (0, [.int wi, .int hi, .int fo, .ref gi, .ref ke, .ref sp, .ref pi, .ref fa])), (gi, .inr (1, [.ref gia, .int gin])), (gia, .inl (cJ, 114, .inr (.inl gif))), (ke, .inr (1, [.ref kea, .int (nI kn)])), (kea, .inl (cJ, 114, .inr (.inl kef))), (sp, .inr (1, [.ref spa, .int (nI (pu_cs fo wi hi sd kn kef spf k).1)])), (spa, .inl (cJ, 114, .inr (.inl ((pu_cs fo wi hi sd kn kef spf k).2)))), (pi, .inr (1, [.ref pia, .int pin])), (pia, .inl (cJ, 114, .inr (.inl pif))), (fa, .inr (2, [.ref fas, .ref fat, .ref faa, .int fan])), (fas, .inl (cI, 17, .inl faS)), (fat, .inl (cI, 17, .inl faT)), (faa, .inl (cI, 17, .inl faA))] → va_S A s.heap H locs → ∀ (ls : Array Slot), lv_has ls 6 [(0, .ref ob), (1, .int (nI sd)), (2, .int (nI k))] → W p l e (headSpec w_PC_cutBySide ({ frames := 4, cells := 0, slots := 0, locals := 104 } : Room)).room s m ([.ref ob, .int (nI sd)] : List Value).toArray below meth c H locs 0 0 (MQ below (va_Qv (fun _ : Unit => True) (rz (dC, dI) A [(ob, .inr (0, [.int wi, .int hi, .int fo, .ref gi, .ref sp, .ref ke, .ref pi, .ref fa])), (gi, .inr (1, [.ref gia, .int gin])), (gia, .inl (cJ, 114, .inr (.inl gif))), (ke, .inr (1, [.ref kea, .int (nI kn)])), (kea, .inl (cJ, 114, .inr (.inl kef))), (sp, .inr (1, [.ref spa, .int (nI (pu_cs fo wi hi sd kn kef spf kn).1)])), (spa, .inl (cJ, 114, .inr (.inl ((pu_cs fo wi hi sd kn kef spf kn).2)))), (pi, .inr (1, [.ref pia, .int pin])), (pia, .inl (cJ, 114, .inr (.inl pif))), (fa, .inr (2, [.ref fas, .ref fat, .ref faa, .int fan])), (fas, .inl (cI, 17, .inl faS)), (fat, .inl (cI, 17, .inl faT)), (faa, .inl (cI, 17, .inl faA))]) A) ([.ref ob, .int (nI sd)] : List Value).toArray s 0 0 A) (F0 m 9 ls []) := by
    intro  n
    induction n with
    | zero =>
      intro k hk hm
      exact absurd hm (by omega)
    | succ n ih =>
      intro k hk hm H locs hP hD hS ls hl
      refine lv_iload_n hx hb d_PC_cutBySide_9 rfl (lv_at hl 2 rfl) ?_
      refine lv_aload_n hx hb d_PC_cutBySide_10 rfl (lv_at hl 0 rfl) ?_
      refine va_get (D := (dC, dI)) (ci := 0) (v := .ref ke) (C := R_PC) (T := F_PC) (N := 8) hx hb hts (fun w h => mw (i_PC w h)) hown hK hP 0 rfl rfl 4 (by decide) (hts _ (mw wd_85)) (fun _ h9 => h9) rfl d_PC_cutBySide_11 ?_
      refine va_getN (D := (dC, dI)) (ci := 1) (v := .int (nI kn)) (C := R_Ri) (T := F_Ri) (N := 2) hx hb hts (fun w h => mw (i_Ri w h)) hown hK hP 3 rfl rfl 1 (by decide) (va_Nw.use rfl (hN _ nw_1)) (fun _ h9 => h9) rfl d_PC_cutBySide_14 ?_
      refine lv_icmp_ge (tgt := 137) hx hb d_PC_cutBySide_17 (by decide) (fun c_1 => ?_) (fun c_1 => ?_)
      · have c_1 : nI kn ≤ nI k := c_1
        rw [nI_leI (by omega) (by omega)] at c_1
        have c_1 : kn ≤ k := c_1
        refine lv_aload_n hx hb d_PC_cutBySide_137 rfl (lv_at hl 0 rfl) ?_
        refine va_get (D := (dC, dI)) (ci := 0) (v := .ref sp) (C := R_PC) (T := F_PC) (N := 8) hx hb hts (fun w h => mw (i_PC w h)) hown hK hP 0 rfl rfl 5 (by decide) (hts _ (mw wd_86)) (fun _ h9 => h9) rfl d_PC_cutBySide_138 ?_
        refine lv_astore_n (lv' := [(2, .ref sp), (0, .ref ob), (1, .int (nI sd))]) hx hb d_PC_cutBySide_141 rfl hl (by decide) rfl (fun ls hl => ?_)
        refine lv_aload_n hx hb d_PC_cutBySide_142 rfl (lv_at hl 1 rfl) ?_
        refine lv_aload_n hx hb d_PC_cutBySide_143 rfl (lv_at hl 1 rfl) ?_
        refine va_get (D := (dC, dI)) (ci := 0) (v := .ref ke) (C := R_PC) (T := F_PC) (N := 8) hx hb hts (fun w h => mw (i_PC w h)) hown hK hP 0 rfl rfl 4 (by decide) (hts _ (mw wd_85)) (fun _ h9 => h9) rfl d_PC_cutBySide_144 ?_
        refine va_put (D := (dC, dI)) (ci := 0) (v := .ref ke) (ty := (.object "PieceCutter$Ring")) (C := R_PC) (T := F_PC) (N := 8) hx hb hts (fun w h => mw (i_PC w h)) t_PC t_PC_ok n_PC hown hK hP hD hS 0 rfl rfl 5 (by decide) (hts _ (mw wd_86)) (fun _ h9 => h9) rfl (by decide +kernel) rfl rfl (Nat.le_of_ble_eq_true rfl) d_PC_cutBySide_147 (fun H locs hP hD hS => ?_)
        have hP : va_P (dC, dI) cls4 [(ob, .inr (0, [.int wi, .int hi, .int fo, .ref gi, .ref ke, .ref ke, .ref pi, .ref fa])), (gi, .inr (1, [.ref gia, .int gin])), (gia, .inl (cJ, 114, .inr (.inl gif))), (ke, .inr (1, [.ref kea, .int (nI kn)])), (kea, .inl (cJ, 114, .inr (.inl kef))), (sp, .inr (1, [.ref spa, .int (nI (pu_cs fo wi hi sd kn kef spf k).1)])), (spa, .inl (cJ, 114, .inr (.inl ((pu_cs fo wi hi sd kn kef spf k).2)))), (pi, .inr (1, [.ref pia, .int pin])), (pia, .inl (cJ, 114, .inr (.inl pif))), (fa, .inr (2, [.ref fas, .ref fat, .ref faa, .int fan])), (fas, .inl (cI, 17, .inl faS)), (fat, .inl (cI, 17, .inl faT)), (faa, .inl (cI, 17, .inl faA))] H := hP
        have hD : va_D A [(ob, .inr (0, [.int wi, .int hi, .int fo, .ref gi, .ref ke, .ref ke, .ref pi, .ref fa])), (gi, .inr (1, [.ref gia, .int gin])), (gia, .inl (cJ, 114, .inr (.inl gif))), (ke, .inr (1, [.ref kea, .int (nI kn)])), (kea, .inl (cJ, 114, .inr (.inl kef))), (sp, .inr (1, [.ref spa, .int (nI (pu_cs fo wi hi sd kn kef spf k).1)])), (spa, .inl (cJ, 114, .inr (.inl ((pu_cs fo wi hi sd kn kef spf k).2)))), (pi, .inr (1, [.ref pia, .int pin])), (pia, .inl (cJ, 114, .inr (.inl pif))), (fa, .inr (2, [.ref fas, .ref fat, .ref faa, .int fan])), (fas, .inl (cI, 17, .inl faS)), (fat, .inl (cI, 17, .inl faT)), (faa, .inl (cI, 17, .inl faA))] := hD
        refine lv_aload_n hx hb d_PC_cutBySide_150 rfl (lv_at hl 1 rfl) ?_
        refine lv_aload_n hx hb d_PC_cutBySide_151 rfl (lv_at hl 0 rfl) ?_
        refine va_put (D := (dC, dI)) (ci := 0) (v := .ref sp) (ty := (.object "PieceCutter$Ring")) (C := R_PC) (T := F_PC) (N := 8) hx hb hts (fun w h => mw (i_PC w h)) t_PC t_PC_ok n_PC hown hK hP hD hS 0 rfl rfl 4 (by decide) (hts _ (mw wd_85)) (fun _ h9 => h9) rfl (by decide +kernel) rfl rfl (Nat.le_of_ble_eq_true rfl) d_PC_cutBySide_152 (fun H locs hP hD hS => ?_)
        have hP : va_P (dC, dI) cls4 [(ob, .inr (0, [.int wi, .int hi, .int fo, .ref gi, .ref sp, .ref ke, .ref pi, .ref fa])), (gi, .inr (1, [.ref gia, .int gin])), (gia, .inl (cJ, 114, .inr (.inl gif))), (ke, .inr (1, [.ref kea, .int (nI kn)])), (kea, .inl (cJ, 114, .inr (.inl kef))), (sp, .inr (1, [.ref spa, .int (nI (pu_cs fo wi hi sd kn kef spf k).1)])), (spa, .inl (cJ, 114, .inr (.inl ((pu_cs fo wi hi sd kn kef spf k).2)))), (pi, .inr (1, [.ref pia, .int pin])), (pia, .inl (cJ, 114, .inr (.inl pif))), (fa, .inr (2, [.ref fas, .ref fat, .ref faa, .int fan])), (fas, .inl (cI, 17, .inl faS)), (fat, .inl (cI, 17, .inl faT)), (faa, .inl (cI, 17, .inl faA))] H := hP
        have hD : va_D A [(ob, .inr (0, [.int wi, .int hi, .int fo, .ref gi, .ref sp, .ref ke, .ref pi, .ref fa])), (gi, .inr (1, [.ref gia, .int gin])), (gia, .inl (cJ, 114, .inr (.inl gif))), (ke, .inr (1, [.ref kea, .int (nI kn)])), (kea, .inl (cJ, 114, .inr (.inl kef))), (sp, .inr (1, [.ref spa, .int (nI (pu_cs fo wi hi sd kn kef spf k).1)])), (spa, .inl (cJ, 114, .inr (.inl ((pu_cs fo wi hi sd kn kef spf k).2)))), (pi, .inr (1, [.ref pia, .int pin])), (pia, .inl (cJ, 114, .inr (.inl pif))), (fa, .inr (2, [.ref fas, .ref fat, .ref faa, .int fan])), (fas, .inl (cI, 17, .inl faS)), (fat, .inl (cI, 17, .inl faT)), (faa, .inl (cI, 17, .inl faA))] := hD
        have hkk : kn = k := by omega
        rw [← hkk] at hP hD
        exact W.vret hx hb hr (fun t ht hW => ⟨⟨(), rfl, trivial, by rw [ht]; exact hP, hD⟩, hS.F ht⟩) hS.2.2 d_PC_cutBySide_155
      · have c_1 : ¬ (nI kn ≤ nI k) := c_1
        rw [nI_leI (by omega) (by omega)] at c_1
        have c_1 : ¬ (kn ≤ k) := c_1
        refine lv_iload_n hx hb d_PC_cutBySide_20 rfl (lv_at hl 2 rfl) ?_
        refine lv_iconst (v := 1) hx hb d_PC_cutBySide_21 (by decide) ?_
        refine lv_iadd hx hb d_PC_cutBySide_22 ?_
        refine lv_topi (fun y_2 ey_2 => ?_)
        have ey_2 : y_2 = nI (k + 1) := by rw [ey_2]; first | rfl | (simp only [nk_set_0, nk_set_1, nk_set_2, nk_set_3, nk_set_4, nk_set_5, nk_set_6, nk_set_7, nk_set_12, nk_set_13, nk_set_18, pk_mul, nI_add]; done) | (simp only [nk_set_0, nk_set_1, nk_set_2, nk_set_3, nk_set_4, nk_set_5, nk_set_6, nk_set_7, nk_set_12, nk_set_13, nk_set_18, pk_mul, nI_add]; exact congrArg nI (by omega))
        subst ey_2
        refine lv_aload_n hx hb d_PC_cutBySide_23 rfl (lv_at hl 0 rfl) ?_
        refine va_get (D := (dC, dI)) (ci := 0) (v := .ref ke) (C := R_PC) (T := F_PC) (N := 8) hx hb hts (fun w h => mw (i_PC w h)) hown hK hP 0 rfl rfl 4 (by decide) (hts _ (mw wd_85)) (fun _ h9 => h9) rfl d_PC_cutBySide_24 ?_
        refine va_getN (D := (dC, dI)) (ci := 1) (v := .int (nI kn)) (C := R_Ri) (T := F_Ri) (N := 2) hx hb hts (fun w h => mw (i_Ri w h)) hown hK hP 3 rfl rfl 1 (by decide) (va_Nw.use rfl (hN _ nw_1)) (fun _ h9 => h9) rfl d_PC_cutBySide_27 ?_
        refine lv_icmp_ge (tgt := 39) hx hb d_PC_cutBySide_30 (by decide) (fun c_3 => ?_) (fun c_3 => ?_)
        · have c_3 : nI kn ≤ nI (k + 1) := c_3
          rw [nI_leI (by omega) (by omega)] at c_3
          have c_3 : kn ≤ (k + 1) := c_3
          refine lv_iconst (v := 0) hx hb d_PC_cutBySide_39 (by decide) ?_
          refine lv_istore_n (lv' := [(3, .int 0), (0, .ref ob), (1, .int (nI sd)), (2, .int (nI k))]) hx hb d_PC_cutBySide_40 rfl hl (by decide) rfl (fun ls hl => ?_)
          refine lv_aload_n hx hb d_PC_cutBySide_41 rfl (lv_at hl 1 rfl) ?_
          refine lv_iload_n hx hb d_PC_cutBySide_42 rfl (lv_at hl 3 rfl) ?_
          refine lv_iload_n hx hb d_PC_cutBySide_43 rfl (lv_at hl 2 rfl) ?_
          have hPc := hP
          refine vp_callSl (va_Run.run (va_runV (As := [.int (nI k), .int (nI sd)]) (rest := []) ⟨hx, hb, hml, hown, hts⟩ (k_PC_sideNumber l dC dI cJ cI ob wi hi fo gi gia gin gif ke kea kn kef sp spa (nI (pu_cs fo wi hi sd kn kef spf k).1) ((pu_cs fo wi hi sd kn kef spf k).2) pi pia pin pif fa fas fat faa fan faS faT faA k sd (by omega) (by omega) (by omega)) (cwV 2 hts (gd_V wd_141 wd_142 wd_7 wd_33 wd_143) rfl rfl rfl (by decide +kernel) ⟨Nat.le_of_ble_eq_true rfl, Nat.le_of_ble_eq_true rfl⟩) ⟨fb_ro, va_recv hK hPc (ci := 0) (q0 := 0) rfl rfl, pre_ro hK hN hPc⟩ rfl rfl hl.1 rfl (lv_room (Nat.le_of_ble_eq_true rfl)) d_PC_cutBySide_44 ⟨Nat.le_of_ble_eq_true rfl, Nat.le_of_ble_eq_true rfl⟩)) (fun r_4 er_4 => ?_)
          have er_4 : r_4 = pu_side fo wi hi sd kef k := er_4
          refine lv_lconst (v := 0) hx hb d_PC_cutBySide_47 (by decide) ?_
          refine W.lcmp hx hb d_PC_cutBySide_48 ?_
          refine lv_if_lt (tgt := 56) hx hb d_PC_cutBySide_49 (by decide) (fun c_5 => ?_) (fun c_5 => ?_)
          · rw [lg_cmp_lt] at c_5
            have c_5 : r_4 < 0 := c_5
            refine lv_iconst (v := 0) hx hb d_PC_cutBySide_56 (by decide) ?_
            refine lv_istore (lv' := [(4, .int 0), (3, .int 0), (0, .ref ob), (1, .int (nI sd)), (2, .int (nI k))]) hx hb d_PC_cutBySide_57 hl (by decide) rfl (fun ls hl => ?_)
            refine lv_aload_n hx hb d_PC_cutBySide_59 rfl (lv_at hl 2 rfl) ?_
            refine lv_iload_n hx hb d_PC_cutBySide_60 rfl (lv_at hl 1 rfl) ?_
            refine lv_iload_n hx hb d_PC_cutBySide_61 rfl (lv_at hl 3 rfl) ?_
            have hPc := hP
            refine vp_callSl (va_Run.run (va_runV (As := [.int (nI 0), .int (nI sd)]) (rest := []) ⟨hx, hb, hml, hown, hts⟩ (k_PC_sideNumber l dC dI cJ cI ob wi hi fo gi gia gin gif ke kea kn kef sp spa (nI (pu_cs fo wi hi sd kn kef spf k).1) ((pu_cs fo wi hi sd kn kef spf k).2) pi pia pin pif fa fas fat faa fan faS faT faA 0 sd (by omega) (by omega) (by omega)) (cwV 2 hts (gd_V wd_141 wd_142 wd_7 wd_33 wd_143) rfl rfl rfl (by decide +kernel) ⟨Nat.le_of_ble_eq_true rfl, Nat.le_of_ble_eq_true rfl⟩) ⟨fb_ro, va_recv hK hPc (ci := 0) (q0 := 0) rfl rfl, pre_ro hK hN hPc⟩ rfl rfl hl.1 rfl (lv_room (Nat.le_of_ble_eq_true rfl)) d_PC_cutBySide_62 ⟨Nat.le_of_ble_eq_true rfl, Nat.le_of_ble_eq_true rfl⟩)) (fun r_6 er_6 => ?_)
            have er_6 : r_6 = pu_side fo wi hi sd kef 0 := er_6
            refine lv_lconst (v := 0) hx hb d_PC_cutBySide_65 (by decide) ?_
            refine W.lcmp hx hb d_PC_cutBySide_66 ?_
            refine lv_if_lt (tgt := 74) hx hb d_PC_cutBySide_67 (by decide) (fun c_7 => ?_) (fun c_7 => ?_)
            · rw [lg_cmp_lt] at c_7
              have c_7 : r_6 < 0 := c_7
              refine lv_iconst (v := 0) hx hb d_PC_cutBySide_74 (by decide) ?_
              refine lv_istore (lv' := [(5, .int 0), (4, .int 0), (3, .int 0), (0, .ref ob), (1, .int (nI sd)), (2, .int (nI k))]) hx hb d_PC_cutBySide_75 hl (by decide) rfl (fun ls hl => ?_)
              have hnx : pu_nx kn k = 0 := if_neg (by omega)
              have h1 : ¬ 0 ≤ pu_side fo wi hi sd kef k := by rw [← er_4]; exact st_lt c_5
              have h2 : ¬ 0 ≤ pu_side fo wi hi sd kef (pu_nx kn k) := by rw [hnx, ← er_6]; exact st_lt c_7
              have hstep := pu_cs_00 (n := kn) (N0 := spf) h1 h2
              have hroom := cb_top (fo := fo) (wi := wi) (hi := hi) (sd := sd) (R := kef) (N0 := spf) (show k < kn by omega) hkn
              rw [hstep] at hroom
              try dsimp only at hroom
              have hnl : 0 < kn := by omega
              rw [hnx] at h2
              refine lv_iload hx hb d_PC_cutBySide_77 (lv_at hl 1 rfl) ?_
              refine lv_if_eq (tgt := 94) hx hb d_PC_cutBySide_79 (by decide) (fun _ => ?_) (fun c_8 => absurd (by decide) c_8)
              refine lv_iload hx hb d_PC_cutBySide_94 (lv_at hl 1 rfl) ?_
              refine lv_if_eq (tgt := 114) hx hb d_PC_cutBySide_96 (by decide) (fun _ => ?_) (fun c_9 => absurd (by decide) c_9)
              refine lv_iload hx hb d_PC_cutBySide_114 (lv_at hl 1 rfl) ?_
              refine lv_if_ne (tgt := 131) hx hb d_PC_cutBySide_116 (by decide) (fun c_10 => absurd (by decide) c_10) (fun _ => ?_)
              refine lv_iload hx hb d_PC_cutBySide_119 (lv_at hl 0 rfl) ?_
              refine lv_if_eq (tgt := 131) hx hb d_PC_cutBySide_121 (by decide) (fun _ => ?_) (fun c_11 => absurd (by decide) c_11)
              refine lv_iinc (v := (nI (k + 1))) (lv' := [(2, .int (nI (k + 1))), (5, .int 0), (4, .int 0), (3, .int 0), (0, .ref ob), (1, .int (nI sd))]) hx hb d_PC_cutBySide_131 hl (k := 5) rfl (nI_1 k) (by decide) rfl (fun ls hl => ?_)
              refine lv_goto (tgt := 9) hx hb d_PC_cutBySide_134 (by decide) ?_
              refine ih (k + 1) (by omega) (by omega) _ _ ?_ ?_ hS ls (lv_sub hl [4, 5, 0] rfl)
              · rw [hstep]; exact hP
              · rw [hstep]; exact hD
            · rw [lg_cmp_lt] at c_7
              have c_7 : ¬ (r_6 < 0) := c_7
              refine lv_iconst (v := 1) hx hb d_PC_cutBySide_70 (by decide) ?_
              refine lv_goto (tgt := 75) hx hb d_PC_cutBySide_71 (by decide) ?_
              refine lv_istore (lv' := [(5, .int 1), (4, .int 0), (3, .int 0), (0, .ref ob), (1, .int (nI sd)), (2, .int (nI k))]) hx hb d_PC_cutBySide_75 hl (by decide) rfl (fun ls hl => ?_)
              have hnx : pu_nx kn k = 0 := if_neg (by omega)
              have h1 : ¬ 0 ≤ pu_side fo wi hi sd kef k := by rw [← er_4]; exact st_lt c_5
              have h2 : 0 ≤ pu_side fo wi hi sd kef (pu_nx kn k) := by rw [hnx, ← er_6]; exact st_ge c_7
              have hstep := pu_cs_01 (n := kn) (N0 := spf) h1 h2
              have hroom := cb_top (fo := fo) (wi := wi) (hi := hi) (sd := sd) (R := kef) (N0 := spf) (show k < kn by omega) hkn
              rw [hstep] at hroom
              try dsimp only at hroom
              have hnl : 0 < kn := by omega
              rw [hnx] at hstep h2
              refine lv_iload hx hb d_PC_cutBySide_77 (lv_at hl 1 rfl) ?_
              refine lv_if_eq (tgt := 94) hx hb d_PC_cutBySide_79 (by decide) (fun _ => ?_) (fun c_12 => absurd (by decide) c_12)
              refine lv_iload hx hb d_PC_cutBySide_94 (lv_at hl 1 rfl) ?_
              refine lv_if_eq (tgt := 114) hx hb d_PC_cutBySide_96 (by decide) (fun _ => ?_) (fun c_13 => absurd (by decide) c_13)
              refine lv_iload hx hb d_PC_cutBySide_114 (lv_at hl 1 rfl) ?_
              refine lv_if_ne (tgt := 131) hx hb d_PC_cutBySide_116 (by decide) (fun c_14 => absurd (by decide) c_14) (fun _ => ?_)
              refine lv_iload hx hb d_PC_cutBySide_119 (lv_at hl 0 rfl) ?_
              refine lv_if_eq (tgt := 131) hx hb d_PC_cutBySide_121 (by decide) (fun c_15 => absurd c_15 (by decide)) (fun _ => ?_)
              refine lv_aload_n hx hb d_PC_cutBySide_124 rfl (lv_at hl 3 rfl) ?_
              refine lv_iload_n hx hb d_PC_cutBySide_125 rfl (lv_at hl 2 rfl) ?_
              refine lv_iload_n hx hb d_PC_cutBySide_126 rfl (lv_at hl 5 rfl) ?_
              refine lv_iload_n hx hb d_PC_cutBySide_127 rfl (lv_at hl 4 rfl) ?_
              have hPc := hP
              have hDc := hD.sub (ws' := [(ob, .inr (0, [.int wi, .int hi, .int fo, .ref gi, .ref ke, .ref sp, .ref pi, .ref fa])), (gi, .inr (1, [.ref gia, .int gin])), (gia, .inl (cJ, 114, .inr (.inl gif))), (ke, .inr (1, [.ref kea, .int (nI kn)])), (kea, .inl (cJ, 114, .inr (.inl kef))), (sp, .inr (1, [.ref spa, .int (nI (pu_cs fo wi hi sd kn kef spf k).1)])), (spa, .inl (cJ, 114, .inr (.inl ((pu_cs fo wi hi sd kn kef spf k).2)))), (pi, .inr (1, [.ref pia, .int pin])), (pia, .inl (cJ, 114, .inr (.inl pif))), (fa, .inr (2, [.ref fas, .ref fat, .ref faa, .int fan])), (fas, .inl (cI, 17, .inl faS)), (fat, .inl (cI, 17, .inl faT)), (faa, .inl (cI, 17, .inl faA))]) [0, 1, 2, 3, 4, 5, 6, 7, 8, 9, 10, 11, 12] (by decide) rfl
              have hFc := va_free (wc := [(ob, .inr (0, [.int wi, .int hi, .int fo, .ref gi, .ref ke, .ref sp, .ref pi, .ref fa])), (gi, .inr (1, [.ref gia, .int gin])), (gia, .inl (cJ, 114, .inr (.inl gif))), (ke, .inr (1, [.ref kea, .int (nI kn)])), (kea, .inl (cJ, 114, .inr (.inl kef))), (sp, .inr (1, [.ref spa, .int (nI (pu_cs fo wi hi sd kn kef spf k).1)])), (spa, .inl (cJ, 114, .inr (.inl ((pu_cs fo wi hi sd kn kef spf k).2)))), (pi, .inr (1, [.ref pia, .int pin])), (pia, .inl (cJ, 114, .inr (.inl pif))), (fa, .inr (2, [.ref fas, .ref fat, .ref faa, .int fan])), (fas, .inl (cI, 17, .inl faS)), (fat, .inl (cI, 17, .inl faT)), (faa, .inl (cI, 17, .inl faA))]) hD hS hA [0, 1, 2, 3, 4, 5, 6, 7, 8, 9, 10, 11, 12] rfl
              refine va_callv (va_runV (As := [.int (nI 0), .int (nI k), .int (nI sd)]) (rest := []) ⟨hx, hb, hml, hown, hts⟩ (k_PC_addBetween l dC dI cJ cI H.size ob wi hi fo gi gia gin gif ke kea kn kef sp spa ((pu_cs fo wi hi sd kn kef spf k).1) ((pu_cs fo wi hi sd kn kef spf k).2) pi pia pin pif fa fas fat faa fan faS faT faA 0 k sd (by omega) (by omega) (by omega) (by omega) (by omega) (cb_pos hfit (hc3 (0) (by omega)) (hc3 (k) (by omega)) h2 h1)) (cwV 3 hts (gd_V wd_145 wd_146 wd_8 wd_33 wd_147) rfl rfl rfl (by decide +kernel) ⟨Nat.le_of_ble_eq_true rfl, Nat.le_of_ble_eq_true rfl⟩) ⟨fb_rw, va_recv hK hPc (ci := 0) (q0 := 0) rfl rfl, pre_rw hK hN hPc hDc⟩ rfl rfl hl.1 rfl (lv_room (Nat.le_of_ble_eq_true rfl)) d_PC_cutBySide_128 ⟨Nat.le_of_ble_eq_true rfl, Nat.le_of_ble_eq_true rfl⟩) hS (fun q _ h => hFc q h) hFc (fun u t H locs ht hvm hw hB hz1 hk1 hS => ?_)
              obtain ⟨hP1, hD1⟩ := hB
              rw [ht] at hP1
              obtain ⟨hP, hD⟩ := va_join (wr := []) (w1 := [(ob, .inr (0, [.int wi, .int hi, .int fo, .ref gi, .ref ke, .ref sp, .ref pi, .ref fa])), (gi, .inr (1, [.ref gia, .int gin])), (gia, .inl (cJ, 114, .inr (.inl gif))), (ke, .inr (1, [.ref kea, .int (nI kn)])), (kea, .inl (cJ, 114, .inr (.inl kef))), (sp, .inr (1, [.ref spa, .int (nI (((pu_cs fo wi hi sd kn kef spf k).1) + 1))])), (spa, .inl (cJ, 114, .inr (.inl (pu_put ((pu_cs fo wi hi sd kn kef spf k).2) ((pu_cs fo wi hi sd kn kef spf k).1) (pu_new fo wi hi sd kef 0 k))))), (pi, .inr (1, [.ref pia, .int pin])), (pia, .inl (cJ, 114, .inr (.inl pif))), (fa, .inr (2, [.ref fas, .ref fat, .ref faa, .int fan])), (fas, .inl (cI, 17, .inl faS)), (fat, .inl (cI, 17, .inl faT)), (faa, .inl (cI, 17, .inl faA))]) hP hD [0, 1, 2, 3, 4, 5, 6, 7, 8, 9, 10, 11, 12] [] rfl rfl (by decide) (by decide) hk1 hFc hP1 hD1
              have hP : va_P (dC, dI) cls4 [(ob, .inr (0, [.int wi, .int hi, .int fo, .ref gi, .ref ke, .ref sp, .ref pi, .ref fa])), (gi, .inr (1, [.ref gia, .int gin])), (gia, .inl (cJ, 114, .inr (.inl gif))), (ke, .inr (1, [.ref kea, .int (nI kn)])), (kea, .inl (cJ, 114, .inr (.inl kef))), (sp, .inr (1, [.ref spa, .int (nI (((pu_cs fo wi hi sd kn kef spf k).1) + 1))])), (spa, .inl (cJ, 114, .inr (.inl (pu_put ((pu_cs fo wi hi sd kn kef spf k).2) ((pu_cs fo wi hi sd kn kef spf k).1) (pu_new fo wi hi sd kef 0 k))))), (pi, .inr (1, [.ref pia, .int pin])), (pia, .inl (cJ, 114, .inr (.inl pif))), (fa, .inr (2, [.ref fas, .ref fat, .ref faa, .int fan])), (fas, .inl (cI, 17, .inl faS)), (fat, .inl (cI, 17, .inl faT)), (faa, .inl (cI, 17, .inl faA))] H := hP
              have hD : va_D A [(ob, .inr (0, [.int wi, .int hi, .int fo, .ref gi, .ref ke, .ref sp, .ref pi, .ref fa])), (gi, .inr (1, [.ref gia, .int gin])), (gia, .inl (cJ, 114, .inr (.inl gif))), (ke, .inr (1, [.ref kea, .int (nI kn)])), (kea, .inl (cJ, 114, .inr (.inl kef))), (sp, .inr (1, [.ref spa, .int (nI (((pu_cs fo wi hi sd kn kef spf k).1) + 1))])), (spa, .inl (cJ, 114, .inr (.inl (pu_put ((pu_cs fo wi hi sd kn kef spf k).2) ((pu_cs fo wi hi sd kn kef spf k).1) (pu_new fo wi hi sd kef 0 k))))), (pi, .inr (1, [.ref pia, .int pin])), (pia, .inl (cJ, 114, .inr (.inl pif))), (fa, .inr (2, [.ref fas, .ref fat, .ref faa, .int fan])), (fas, .inl (cI, 17, .inl faS)), (fat, .inl (cI, 17, .inl faT)), (faa, .inl (cI, 17, .inl faA))] := hD
              refine lv_iinc (v := (nI (k + 1))) (lv' := [(2, .int (nI (k + 1))), (5, .int 1), (4, .int 0), (3, .int 0), (0, .ref ob), (1, .int (nI sd))]) hx hb d_PC_cutBySide_131 hl (k := 5) rfl (nI_1 k) (by decide) rfl (fun ls hl => ?_)
              refine lv_goto (tgt := 9) hx hb d_PC_cutBySide_134 (by decide) ?_
              refine ih (k + 1) (by omega) (by omega) _ _ ?_ ?_ hS ls (lv_sub hl [4, 5, 0] rfl)
              · rw [hstep]; exact hP
              · rw [hstep]; exact hD
          · rw [lg_cmp_lt] at c_5
            have c_5 : ¬ (r_4 < 0) := c_5
            refine lv_iconst (v := 1) hx hb d_PC_cutBySide_52 (by decide) ?_
            refine lv_goto (tgt := 57) hx hb d_PC_cutBySide_53 (by decide) ?_
            refine lv_istore (lv' := [(4, .int 1), (3, .int 0), (0, .ref ob), (1, .int (nI sd)), (2, .int (nI k))]) hx hb d_PC_cutBySide_57 hl (by decide) rfl (fun ls hl => ?_)
            refine lv_aload_n hx hb d_PC_cutBySide_59 rfl (lv_at hl 2 rfl) ?_
            refine lv_iload_n hx hb d_PC_cutBySide_60 rfl (lv_at hl 1 rfl) ?_
            refine lv_iload_n hx hb d_PC_cutBySide_61 rfl (lv_at hl 3 rfl) ?_
            have hPc := hP
            refine vp_callSl (va_Run.run (va_runV (As := [.int (nI 0), .int (nI sd)]) (rest := []) ⟨hx, hb, hml, hown, hts⟩ (k_PC_sideNumber l dC dI cJ cI ob wi hi fo gi gia gin gif ke kea kn kef sp spa (nI (pu_cs fo wi hi sd kn kef spf k).1) ((pu_cs fo wi hi sd kn kef spf k).2) pi pia pin pif fa fas fat faa fan faS faT faA 0 sd (by omega) (by omega) (by omega)) (cwV 2 hts (gd_V wd_141 wd_142 wd_7 wd_33 wd_143) rfl rfl rfl (by decide +kernel) ⟨Nat.le_of_ble_eq_true rfl, Nat.le_of_ble_eq_true rfl⟩) ⟨fb_ro, va_recv hK hPc (ci := 0) (q0 := 0) rfl rfl, pre_ro hK hN hPc⟩ rfl rfl hl.1 rfl (lv_room (Nat.le_of_ble_eq_true rfl)) d_PC_cutBySide_62 ⟨Nat.le_of_ble_eq_true rfl, Nat.le_of_ble_eq_true rfl⟩)) (fun r_16 er_16 => ?_)
            have er_16 : r_16 = pu_side fo wi hi sd kef 0 := er_16
            refine lv_lconst (v := 0) hx hb d_PC_cutBySide_65 (by decide) ?_
            refine W.lcmp hx hb d_PC_cutBySide_66 ?_
            refine lv_if_lt (tgt := 74) hx hb d_PC_cutBySide_67 (by decide) (fun c_17 => ?_) (fun c_17 => ?_)
            · rw [lg_cmp_lt] at c_17
              have c_17 : r_16 < 0 := c_17
              refine lv_iconst (v := 0) hx hb d_PC_cutBySide_74 (by decide) ?_
              refine lv_istore (lv' := [(5, .int 0), (4, .int 1), (3, .int 0), (0, .ref ob), (1, .int (nI sd)), (2, .int (nI k))]) hx hb d_PC_cutBySide_75 hl (by decide) rfl (fun ls hl => ?_)
              have hnx : pu_nx kn k = 0 := if_neg (by omega)
              have h1 : 0 ≤ pu_side fo wi hi sd kef k := by rw [← er_4]; exact st_ge c_5
              have h2 : ¬ 0 ≤ pu_side fo wi hi sd kef (pu_nx kn k) := by rw [hnx, ← er_16]; exact st_lt c_17
              have hstep := pu_cs_10 (n := kn) (N0 := spf) h1 h2
              have hroom := cb_top (fo := fo) (wi := wi) (hi := hi) (sd := sd) (R := kef) (N0 := spf) (show k < kn by omega) hkn
              rw [hstep] at hroom
              try dsimp only at hroom
              have hnl : 0 < kn := by omega
              rw [hnx] at hstep h2
              refine lv_iload hx hb d_PC_cutBySide_77 (lv_at hl 1 rfl) ?_
              refine lv_if_eq (tgt := 94) hx hb d_PC_cutBySide_79 (by decide) (fun c_18 => absurd c_18 (by decide)) (fun _ => ?_)
              refine lv_aload_n hx hb d_PC_cutBySide_82 rfl (lv_at hl 3 rfl) ?_
              refine va_get (D := (dC, dI)) (ci := 0) (v := .ref sp) (C := R_PC) (T := F_PC) (N := 8) hx hb hts (fun w h => mw (i_PC w h)) hown hK hP 0 rfl rfl 5 (by decide) (hts _ (mw wd_86)) (fun _ h9 => h9) rfl d_PC_cutBySide_83 ?_
              refine lv_aload_n hx hb d_PC_cutBySide_86 rfl (lv_at hl 3 rfl) ?_
              refine va_get (D := (dC, dI)) (ci := 0) (v := .ref ke) (C := R_PC) (T := F_PC) (N := 8) hx hb hts (fun w h => mw (i_PC w h)) hown hK hP 0 rfl rfl 4 (by decide) (hts _ (mw wd_85)) (fun _ h9 => h9) rfl d_PC_cutBySide_87 ?_
              refine lv_iload_n hx hb d_PC_cutBySide_90 rfl (lv_at hl 5 rfl) ?_
              have hPc := hP.sub (ws' := [(sp, .inr (1, [.ref spa, .int (nI (pu_cs fo wi hi sd kn kef spf k).1)])), (spa, .inl (cJ, 114, .inr (.inl ((pu_cs fo wi hi sd kn kef spf k).2)))), (ke, .inr (1, [.ref kea, .int (nI kn)])), (kea, .inl (cJ, 114, .inr (.inl kef)))]) [5, 6, 3, 4] rfl
              have hDc := hD.sub (ws' := [(sp, .inr (1, [.ref spa, .int (nI (pu_cs fo wi hi sd kn kef spf k).1)])), (spa, .inl (cJ, 114, .inr (.inl ((pu_cs fo wi hi sd kn kef spf k).2)))), (ke, .inr (1, [.ref kea, .int (nI kn)])), (kea, .inl (cJ, 114, .inr (.inl kef)))]) [5, 6, 3, 4] (by decide) rfl
              have hFc := va_free (wc := [(sp, .inr (1, [.ref spa, .int (nI (pu_cs fo wi hi sd kn kef spf k).1)])), (spa, .inl (cJ, 114, .inr (.inl ((pu_cs fo wi hi sd kn kef spf k).2)))), (ke, .inr (1, [.ref kea, .int (nI kn)])), (kea, .inl (cJ, 114, .inr (.inl kef)))]) hD hS hA [5, 6, 3, 4] rfl
              refine va_callv (va_runVN (As := [.ref ke, .int (nI k)]) (rest := []) ⟨hx, hb, hml, hown, hts⟩ (k_Ri_addCopy l dC dI cJ cI H.size sp spa ((pu_cs fo wi hi sd kn kef spf k).1) ((pu_cs fo wi hi sd kn kef spf k).2) ke kea kn kef k (by omega) (by omega) (by omega)) (⟨va_cnB 2 hts (gd_0 wd_132) rfl rfl rfl (hN _ nw_9) (hts _ (mw wd_35)) (by decide +kernel) ⟨Nat.le_of_ble_eq_true rfl, Nat.le_of_ble_eq_true rfl⟩, (hts _ (mw wd_131)), (hts _ (mw wd_4))⟩) ⟨fb_rw, va_recv hK hPc (ci := 1) (q0 := 0) rfl rfl, pre_rw hK hN hPc hDc⟩ rfl rfl hl.1 rfl (lv_room (Nat.le_of_ble_eq_true rfl)) d_PC_cutBySide_91 ⟨Nat.le_of_ble_eq_true rfl, Nat.le_of_ble_eq_true rfl⟩) hS (fun q _ h => hFc q h) hFc (fun u t H locs ht hvm hw hB hz1 hk1 hS => ?_)
              obtain ⟨hP1, hD1⟩ := hB
              rw [ht] at hP1
              obtain ⟨hP, hD⟩ := va_join (wr := [(ob, .inr (0, [.int wi, .int hi, .int fo, .ref gi, .ref ke, .ref sp, .ref pi, .ref fa])), (gi, .inr (1, [.ref gia, .int gin])), (gia, .inl (cJ, 114, .inr (.inl gif))), (pi, .inr (1, [.ref pia, .int pin])), (pia, .inl (cJ, 114, .inr (.inl pif))), (fa, .inr (2, [.ref fas, .ref fat, .ref faa, .int fan])), (fas, .inl (cI, 17, .inl faS)), (fat, .inl (cI, 17, .inl faT)), (faa, .inl (cI, 17, .inl faA))]) (w1 := [(sp, .inr (1, [.ref spa, .int (nI (((pu_cs fo wi hi sd kn kef spf k).1) + 1))])), (spa, .inl (cJ, 114, .inr (.inl (pu_put ((pu_cs fo wi hi sd kn kef spf k).2) ((pu_cs fo wi hi sd kn kef spf k).1) (fun j => kef (6 * k + j)))))), (ke, .inr (1, [.ref kea, .int (nI kn)])), (kea, .inl (cJ, 114, .inr (.inl kef)))]) hP hD [5, 6, 3, 4] [0, 1, 2, 7, 8, 9, 10, 11, 12] rfl rfl (by decide) (by decide) hk1 hFc hP1 hD1
              have hP : va_P (dC, dI) cls4 [(ob, .inr (0, [.int wi, .int hi, .int fo, .ref gi, .ref ke, .ref sp, .ref pi, .ref fa])), (gi, .inr (1, [.ref gia, .int gin])), (gia, .inl (cJ, 114, .inr (.inl gif))), (ke, .inr (1, [.ref kea, .int (nI kn)])), (kea, .inl (cJ, 114, .inr (.inl kef))), (sp, .inr (1, [.ref spa, .int (nI (((pu_cs fo wi hi sd kn kef spf k).1) + 1))])), (spa, .inl (cJ, 114, .inr (.inl (pu_put ((pu_cs fo wi hi sd kn kef spf k).2) ((pu_cs fo wi hi sd kn kef spf k).1) (fun j => kef (6 * k + j)))))), (pi, .inr (1, [.ref pia, .int pin])), (pia, .inl (cJ, 114, .inr (.inl pif))), (fa, .inr (2, [.ref fas, .ref fat, .ref faa, .int fan])), (fas, .inl (cI, 17, .inl faS)), (fat, .inl (cI, 17, .inl faT)), (faa, .inl (cI, 17, .inl faA))] H := hP.sub [0, 1, 2, 11, 12, 9, 10, 3, 4, 5, 6, 7, 8] rfl
              have hD : va_D A [(ob, .inr (0, [.int wi, .int hi, .int fo, .ref gi, .ref ke, .ref sp, .ref pi, .ref fa])), (gi, .inr (1, [.ref gia, .int gin])), (gia, .inl (cJ, 114, .inr (.inl gif))), (ke, .inr (1, [.ref kea, .int (nI kn)])), (kea, .inl (cJ, 114, .inr (.inl kef))), (sp, .inr (1, [.ref spa, .int (nI (((pu_cs fo wi hi sd kn kef spf k).1) + 1))])), (spa, .inl (cJ, 114, .inr (.inl (pu_put ((pu_cs fo wi hi sd kn kef spf k).2) ((pu_cs fo wi hi sd kn kef spf k).1) (fun j => kef (6 * k + j)))))), (pi, .inr (1, [.ref pia, .int pin])), (pia, .inl (cJ, 114, .inr (.inl pif))), (fa, .inr (2, [.ref fas, .ref fat, .ref faa, .int fan])), (fas, .inl (cI, 17, .inl faS)), (fat, .inl (cI, 17, .inl faT)), (faa, .inl (cI, 17, .inl faA))] := hD.sub [0, 1, 2, 11, 12, 9, 10, 3, 4, 5, 6, 7, 8] (by decide) rfl
              refine lv_iload hx hb d_PC_cutBySide_94 (lv_at hl 1 rfl) ?_
              refine lv_if_eq (tgt := 114) hx hb d_PC_cutBySide_96 (by decide) (fun c_19 => absurd c_19 (by decide)) (fun _ => ?_)
              refine lv_iload hx hb d_PC_cutBySide_99 (lv_at hl 0 rfl) ?_
              refine lv_if_ne (tgt := 114) hx hb d_PC_cutBySide_101 (by decide) (fun c_20 => absurd (by decide) c_20) (fun _ => ?_)
              refine lv_aload_n hx hb d_PC_cutBySide_104 rfl (lv_at hl 3 rfl) ?_
              refine lv_iload_n hx hb d_PC_cutBySide_105 rfl (lv_at hl 5 rfl) ?_
              refine lv_iload_n hx hb d_PC_cutBySide_106 rfl (lv_at hl 2 rfl) ?_
              refine lv_iload_n hx hb d_PC_cutBySide_107 rfl (lv_at hl 4 rfl) ?_
              have hPc := hP
              have hDc := hD.sub (ws' := [(ob, .inr (0, [.int wi, .int hi, .int fo, .ref gi, .ref ke, .ref sp, .ref pi, .ref fa])), (gi, .inr (1, [.ref gia, .int gin])), (gia, .inl (cJ, 114, .inr (.inl gif))), (ke, .inr (1, [.ref kea, .int (nI kn)])), (kea, .inl (cJ, 114, .inr (.inl kef))), (sp, .inr (1, [.ref spa, .int (nI (((pu_cs fo wi hi sd kn kef spf k).1) + 1))])), (spa, .inl (cJ, 114, .inr (.inl (pu_put ((pu_cs fo wi hi sd kn kef spf k).2) ((pu_cs fo wi hi sd kn kef spf k).1) (fun j => kef (6 * k + j)))))), (pi, .inr (1, [.ref pia, .int pin])), (pia, .inl (cJ, 114, .inr (.inl pif))), (fa, .inr (2, [.ref fas, .ref fat, .ref faa, .int fan])), (fas, .inl (cI, 17, .inl faS)), (fat, .inl (cI, 17, .inl faT)), (faa, .inl (cI, 17, .inl faA))]) [0, 1, 2, 3, 4, 5, 6, 7, 8, 9, 10, 11, 12] (by decide) rfl
              have hFc := va_free (wc := [(ob, .inr (0, [.int wi, .int hi, .int fo, .ref gi, .ref ke, .ref sp, .ref pi, .ref fa])), (gi, .inr (1, [.ref gia, .int gin])), (gia, .inl (cJ, 114, .inr (.inl gif))), (ke, .inr (1, [.ref kea, .int (nI kn)])), (kea, .inl (cJ, 114, .inr (.inl kef))), (sp, .inr (1, [.ref spa, .int (nI (((pu_cs fo wi hi sd kn kef spf k).1) + 1))])), (spa, .inl (cJ, 114, .inr (.inl (pu_put ((pu_cs fo wi hi sd kn kef spf k).2) ((pu_cs fo wi hi sd kn kef spf k).1) (fun j => kef (6 * k + j)))))), (pi, .inr (1, [.ref pia, .int pin])), (pia, .inl (cJ, 114, .inr (.inl pif))), (fa, .inr (2, [.ref fas, .ref fat, .ref faa, .int fan])), (fas, .inl (cI, 17, .inl faS)), (fat, .inl (cI, 17, .inl faT)), (faa, .inl (cI, 17, .inl faA))]) hD hS hA [0, 1, 2, 3, 4, 5, 6, 7, 8, 9, 10, 11, 12] rfl
              refine va_callv (va_runV (As := [.int (nI k), .int (nI 0), .int (nI sd)]) (rest := []) ⟨hx, hb, hml, hown, hts⟩ (k_PC_addBetween l dC dI cJ cI H.size ob wi hi fo gi gia gin gif ke kea kn kef sp spa (((pu_cs fo wi hi sd kn kef spf k).1) + 1) (pu_put ((pu_cs fo wi hi sd kn kef spf k).2) ((pu_cs fo wi hi sd kn kef spf k).1) (fun j => kef (6 * k + j))) pi pia pin pif fa fas fat faa fan faS faT faA k 0 sd (by omega) (by omega) (by omega) (by omega) (by omega) (cb_pos hfit (hc3 (k) (by omega)) (hc3 (0) (by omega)) h1 h2)) (cwV 3 hts (gd_V wd_145 wd_146 wd_8 wd_33 wd_147) rfl rfl rfl (by decide +kernel) ⟨Nat.le_of_ble_eq_true rfl, Nat.le_of_ble_eq_true rfl⟩) ⟨fb_rw, va_recv hK hPc (ci := 0) (q0 := 0) rfl rfl, pre_rw hK hN hPc hDc⟩ rfl rfl hl.1 rfl (lv_room (Nat.le_of_ble_eq_true rfl)) d_PC_cutBySide_108 ⟨Nat.le_of_ble_eq_true rfl, Nat.le_of_ble_eq_true rfl⟩) hS (fun q _ h => hFc q h) hFc (fun u t H locs ht hvm hw hB hz1 hk1 hS => ?_)
              obtain ⟨hP1, hD1⟩ := hB
              rw [ht] at hP1
              obtain ⟨hP, hD⟩ := va_join (wr := []) (w1 := [(ob, .inr (0, [.int wi, .int hi, .int fo, .ref gi, .ref ke, .ref sp, .ref pi, .ref fa])), (gi, .inr (1, [.ref gia, .int gin])), (gia, .inl (cJ, 114, .inr (.inl gif))), (ke, .inr (1, [.ref kea, .int (nI kn)])), (kea, .inl (cJ, 114, .inr (.inl kef))), (sp, .inr (1, [.ref spa, .int (nI ((((pu_cs fo wi hi sd kn kef spf k).1) + 1) + 1))])), (spa, .inl (cJ, 114, .inr (.inl (pu_put (pu_put ((pu_cs fo wi hi sd kn kef spf k).2) ((pu_cs fo wi hi sd kn kef spf k).1) (fun j => kef (6 * k + j))) (((pu_cs fo wi hi sd kn kef spf k).1) + 1) (pu_new fo wi hi sd kef k 0))))), (pi, .inr (1, [.ref pia, .int pin])), (pia, .inl (cJ, 114, .inr (.inl pif))), (fa, .inr (2, [.ref fas, .ref fat, .ref faa, .int fan])), (fas, .inl (cI, 17, .inl faS)), (fat, .inl (cI, 17, .inl faT)), (faa, .inl (cI, 17, .inl faA))]) hP hD [0, 1, 2, 3, 4, 5, 6, 7, 8, 9, 10, 11, 12] [] rfl rfl (by decide) (by decide) hk1 hFc hP1 hD1
              have hP : va_P (dC, dI) cls4 [(ob, .inr (0, [.int wi, .int hi, .int fo, .ref gi, .ref ke, .ref sp, .ref pi, .ref fa])), (gi, .inr (1, [.ref gia, .int gin])), (gia, .inl (cJ, 114, .inr (.inl gif))), (ke, .inr (1, [.ref kea, .int (nI kn)])), (kea, .inl (cJ, 114, .inr (.inl kef))), (sp, .inr (1, [.ref spa, .int (nI ((((pu_cs fo wi hi sd kn kef spf k).1) + 1) + 1))])), (spa, .inl (cJ, 114, .inr (.inl (pu_put (pu_put ((pu_cs fo wi hi sd kn kef spf k).2) ((pu_cs fo wi hi sd kn kef spf k).1) (fun j => kef (6 * k + j))) (((pu_cs fo wi hi sd kn kef spf k).1) + 1) (pu_new fo wi hi sd kef k 0))))), (pi, .inr (1, [.ref pia, .int pin])), (pia, .inl (cJ, 114, .inr (.inl pif))), (fa, .inr (2, [.ref fas, .ref fat, .ref faa, .int fan])), (fas, .inl (cI, 17, .inl faS)), (fat, .inl (cI, 17, .inl faT)), (faa, .inl (cI, 17, .inl faA))] H := hP
              have hD : va_D A [(ob, .inr (0, [.int wi, .int hi, .int fo, .ref gi, .ref ke, .ref sp, .ref pi, .ref fa])), (gi, .inr (1, [.ref gia, .int gin])), (gia, .inl (cJ, 114, .inr (.inl gif))), (ke, .inr (1, [.ref kea, .int (nI kn)])), (kea, .inl (cJ, 114, .inr (.inl kef))), (sp, .inr (1, [.ref spa, .int (nI ((((pu_cs fo wi hi sd kn kef spf k).1) + 1) + 1))])), (spa, .inl (cJ, 114, .inr (.inl (pu_put (pu_put ((pu_cs fo wi hi sd kn kef spf k).2) ((pu_cs fo wi hi sd kn kef spf k).1) (fun j => kef (6 * k + j))) (((pu_cs fo wi hi sd kn kef spf k).1) + 1) (pu_new fo wi hi sd kef k 0))))), (pi, .inr (1, [.ref pia, .int pin])), (pia, .inl (cJ, 114, .inr (.inl pif))), (fa, .inr (2, [.ref fas, .ref fat, .ref faa, .int fan])), (fas, .inl (cI, 17, .inl faS)), (fat, .inl (cI, 17, .inl faT)), (faa, .inl (cI, 17, .inl faA))] := hD
              refine lv_goto (tgt := 131) hx hb d_PC_cutBySide_111 (by decide) ?_
              refine lv_iinc (v := (nI (k + 1))) (lv' := [(2, .int (nI (k + 1))), (5, .int 0), (4, .int 1), (3, .int 0), (0, .ref ob), (1, .int (nI sd))]) hx hb d_PC_cutBySide_131 hl (k := 5) rfl (nI_1 k) (by decide) rfl (fun ls hl => ?_)
              refine lv_goto (tgt := 9) hx hb d_PC_cutBySide_134 (by decide) ?_
              refine ih (k + 1) (by omega) (by omega) _ _ ?_ ?_ hS ls (lv_sub hl [4, 5, 0] rfl)
              · rw [hstep]; exact hP
              · rw [hstep]; exact hD
            · rw [lg_cmp_lt] at c_17
              have c_17 : ¬ (r_16 < 0) := c_17
              refine lv_iconst (v := 1) hx hb d_PC_cutBySide_70 (by decide) ?_
              refine lv_goto (tgt := 75) hx hb d_PC_cutBySide_71 (by decide) ?_
              refine lv_istore (lv' := [(5, .int 1), (4, .int 1), (3, .int 0), (0, .ref ob), (1, .int (nI sd)), (2, .int (nI k))]) hx hb d_PC_cutBySide_75 hl (by decide) rfl (fun ls hl => ?_)
              have hnx : pu_nx kn k = 0 := if_neg (by omega)
              have h1 : 0 ≤ pu_side fo wi hi sd kef k := by rw [← er_4]; exact st_ge c_5
              have h2 : 0 ≤ pu_side fo wi hi sd kef (pu_nx kn k) := by rw [hnx, ← er_16]; exact st_ge c_17
              have hstep := pu_cs_11 (n := kn) (N0 := spf) h1 h2
              have hroom := cb_top (fo := fo) (wi := wi) (hi := hi) (sd := sd) (R := kef) (N0 := spf) (show k < kn by omega) hkn
              rw [hstep] at hroom
              try dsimp only at hroom
              have hnl : 0 < kn := by omega
              rw [hnx] at h2
              refine lv_iload hx hb d_PC_cutBySide_77 (lv_at hl 1 rfl) ?_
              refine lv_if_eq (tgt := 94) hx hb d_PC_cutBySide_79 (by decide) (fun c_21 => absurd c_21 (by decide)) (fun _ => ?_)
              refine lv_aload_n hx hb d_PC_cutBySide_82 rfl (lv_at hl 3 rfl) ?_
              refine va_get (D := (dC, dI)) (ci := 0) (v := .ref sp) (C := R_PC) (T := F_PC) (N := 8) hx hb hts (fun w h => mw (i_PC w h)) hown hK hP 0 rfl rfl 5 (by decide) (hts _ (mw wd_86)) (fun _ h9 => h9) rfl d_PC_cutBySide_83 ?_
              refine lv_aload_n hx hb d_PC_cutBySide_86 rfl (lv_at hl 3 rfl) ?_
              refine va_get (D := (dC, dI)) (ci := 0) (v := .ref ke) (C := R_PC) (T := F_PC) (N := 8) hx hb hts (fun w h => mw (i_PC w h)) hown hK hP 0 rfl rfl 4 (by decide) (hts _ (mw wd_85)) (fun _ h9 => h9) rfl d_PC_cutBySide_87 ?_
              refine lv_iload_n hx hb d_PC_cutBySide_90 rfl (lv_at hl 5 rfl) ?_
              have hPc := hP.sub (ws' := [(sp, .inr (1, [.ref spa, .int (nI (pu_cs fo wi hi sd kn kef spf k).1)])), (spa, .inl (cJ, 114, .inr (.inl ((pu_cs fo wi hi sd kn kef spf k).2)))), (ke, .inr (1, [.ref kea, .int (nI kn)])), (kea, .inl (cJ, 114, .inr (.inl kef)))]) [5, 6, 3, 4] rfl
              have hDc := hD.sub (ws' := [(sp, .inr (1, [.ref spa, .int (nI (pu_cs fo wi hi sd kn kef spf k).1)])), (spa, .inl (cJ, 114, .inr (.inl ((pu_cs fo wi hi sd kn kef spf k).2)))), (ke, .inr (1, [.ref kea, .int (nI kn)])), (kea, .inl (cJ, 114, .inr (.inl kef)))]) [5, 6, 3, 4] (by decide) rfl
              have hFc := va_free (wc := [(sp, .inr (1, [.ref spa, .int (nI (pu_cs fo wi hi sd kn kef spf k).1)])), (spa, .inl (cJ, 114, .inr (.inl ((pu_cs fo wi hi sd kn kef spf k).2)))), (ke, .inr (1, [.ref kea, .int (nI kn)])), (kea, .inl (cJ, 114, .inr (.inl kef)))]) hD hS hA [5, 6, 3, 4] rfl
              refine va_callv (va_runVN (As := [.ref ke, .int (nI k)]) (rest := []) ⟨hx, hb, hml, hown, hts⟩ (k_Ri_addCopy l dC dI cJ cI H.size sp spa ((pu_cs fo wi hi sd kn kef spf k).1) ((pu_cs fo wi hi sd kn kef spf k).2) ke kea kn kef k (by omega) (by omega) (by omega)) (⟨va_cnB 2 hts (gd_0 wd_132) rfl rfl rfl (hN _ nw_9) (hts _ (mw wd_35)) (by decide +kernel) ⟨Nat.le_of_ble_eq_true rfl, Nat.le_of_ble_eq_true rfl⟩, (hts _ (mw wd_131)), (hts _ (mw wd_4))⟩) ⟨fb_rw, va_recv hK hPc (ci := 1) (q0 := 0) rfl rfl, pre_rw hK hN hPc hDc⟩ rfl rfl hl.1 rfl (lv_room (Nat.le_of_ble_eq_true rfl)) d_PC_cutBySide_91 ⟨Nat.le_of_ble_eq_true rfl, Nat.le_of_ble_eq_true rfl⟩) hS (fun q _ h => hFc q h) hFc (fun u t H locs ht hvm hw hB hz1 hk1 hS => ?_)
              obtain ⟨hP1, hD1⟩ := hB
              rw [ht] at hP1
              obtain ⟨hP, hD⟩ := va_join (wr := [(ob, .inr (0, [.int wi, .int hi, .int fo, .ref gi, .ref ke, .ref sp, .ref pi, .ref fa])), (gi, .inr (1, [.ref gia, .int gin])), (gia, .inl (cJ, 114, .inr (.inl gif))), (pi, .inr (1, [.ref pia, .int pin])), (pia, .inl (cJ, 114, .inr (.inl pif))), (fa, .inr (2, [.ref fas, .ref fat, .ref faa, .int fan])), (fas, .inl (cI, 17, .inl faS)), (fat, .inl (cI, 17, .inl faT)), (faa, .inl (cI, 17, .inl faA))]) (w1 := [(sp, .inr (1, [.ref spa, .int (nI (((pu_cs fo wi hi sd kn kef spf k).1) + 1))])), (spa, .inl (cJ, 114, .inr (.inl (pu_put ((pu_cs fo wi hi sd kn kef spf k).2) ((pu_cs fo wi hi sd kn kef spf k).1) (fun j => kef (6 * k + j)))))), (ke, .inr (1, [.ref kea, .int (nI kn)])), (kea, .inl (cJ, 114, .inr (.inl kef)))]) hP hD [5, 6, 3, 4] [0, 1, 2, 7, 8, 9, 10, 11, 12] rfl rfl (by decide) (by decide) hk1 hFc hP1 hD1
              have hP : va_P (dC, dI) cls4 [(ob, .inr (0, [.int wi, .int hi, .int fo, .ref gi, .ref ke, .ref sp, .ref pi, .ref fa])), (gi, .inr (1, [.ref gia, .int gin])), (gia, .inl (cJ, 114, .inr (.inl gif))), (ke, .inr (1, [.ref kea, .int (nI kn)])), (kea, .inl (cJ, 114, .inr (.inl kef))), (sp, .inr (1, [.ref spa, .int (nI (((pu_cs fo wi hi sd kn kef spf k).1) + 1))])), (spa, .inl (cJ, 114, .inr (.inl (pu_put ((pu_cs fo wi hi sd kn kef spf k).2) ((pu_cs fo wi hi sd kn kef spf k).1) (fun j => kef (6 * k + j)))))), (pi, .inr (1, [.ref pia, .int pin])), (pia, .inl (cJ, 114, .inr (.inl pif))), (fa, .inr (2, [.ref fas, .ref fat, .ref faa, .int fan])), (fas, .inl (cI, 17, .inl faS)), (fat, .inl (cI, 17, .inl faT)), (faa, .inl (cI, 17, .inl faA))] H := hP.sub [0, 1, 2, 11, 12, 9, 10, 3, 4, 5, 6, 7, 8] rfl
              have hD : va_D A [(ob, .inr (0, [.int wi, .int hi, .int fo, .ref gi, .ref ke, .ref sp, .ref pi, .ref fa])), (gi, .inr (1, [.ref gia, .int gin])), (gia, .inl (cJ, 114, .inr (.inl gif))), (ke, .inr (1, [.ref kea, .int (nI kn)])), (kea, .inl (cJ, 114, .inr (.inl kef))), (sp, .inr (1, [.ref spa, .int (nI (((pu_cs fo wi hi sd kn kef spf k).1) + 1))])), (spa, .inl (cJ, 114, .inr (.inl (pu_put ((pu_cs fo wi hi sd kn kef spf k).2) ((pu_cs fo wi hi sd kn kef spf k).1) (fun j => kef (6 * k + j)))))), (pi, .inr (1, [.ref pia, .int pin])), (pia, .inl (cJ, 114, .inr (.inl pif))), (fa, .inr (2, [.ref fas, .ref fat, .ref faa, .int fan])), (fas, .inl (cI, 17, .inl faS)), (fat, .inl (cI, 17, .inl faT)), (faa, .inl (cI, 17, .inl faA))] := hD.sub [0, 1, 2, 11, 12, 9, 10, 3, 4, 5, 6, 7, 8] (by decide) rfl
              refine lv_iload hx hb d_PC_cutBySide_94 (lv_at hl 1 rfl) ?_
              refine lv_if_eq (tgt := 114) hx hb d_PC_cutBySide_96 (by decide) (fun c_22 => absurd c_22 (by decide)) (fun _ => ?_)
              refine lv_iload hx hb d_PC_cutBySide_99 (lv_at hl 0 rfl) ?_
              refine lv_if_ne (tgt := 114) hx hb d_PC_cutBySide_101 (by decide) (fun _ => ?_) (fun c_23 => absurd c_23 (by decide))
              refine lv_iload hx hb d_PC_cutBySide_114 (lv_at hl 1 rfl) ?_
              refine lv_if_ne (tgt := 131) hx hb d_PC_cutBySide_116 (by decide) (fun _ => ?_) (fun c_24 => absurd c_24 (by decide))
              refine lv_iinc (v := (nI (k + 1))) (lv' := [(2, .int (nI (k + 1))), (5, .int 1), (4, .int 1), (3, .int 0), (0, .ref ob), (1, .int (nI sd))]) hx hb d_PC_cutBySide_131 hl (k := 5) rfl (nI_1 k) (by decide) rfl (fun ls hl => ?_)
              refine lv_goto (tgt := 9) hx hb d_PC_cutBySide_134 (by decide) ?_
              refine ih (k + 1) (by omega) (by omega) _ _ ?_ ?_ hS ls (lv_sub hl [4, 5, 0] rfl)
              · rw [hstep]; exact hP
              · rw [hstep]; exact hD
        · have c_3 : ¬ (nI kn ≤ nI (k + 1)) := c_3
          rw [nI_leI (by omega) (by omega)] at c_3
          have c_3 : ¬ (kn ≤ (k + 1)) := c_3
          refine lv_iload_n hx hb d_PC_cutBySide_33 rfl (lv_at hl 2 rfl) ?_
          refine lv_iconst (v := 1) hx hb d_PC_cutBySide_34 (by decide) ?_
          refine lv_iadd hx hb d_PC_cutBySide_35 ?_
          refine lv_topi (fun y_25 ey_25 => ?_)
          have ey_25 : y_25 = nI (k + 1) := by rw [ey_25]; first | rfl | (simp only [nk_set_0, nk_set_1, nk_set_2, nk_set_3, nk_set_4, nk_set_5, nk_set_6, nk_set_7, nk_set_12, nk_set_13, nk_set_18, pk_mul, nI_add]; done) | (simp only [nk_set_0, nk_set_1, nk_set_2, nk_set_3, nk_set_4, nk_set_5, nk_set_6, nk_set_7, nk_set_12, nk_set_13, nk_set_18, pk_mul, nI_add]; exact congrArg nI (by omega))
          subst ey_25
          refine lv_goto (tgt := 40) hx hb d_PC_cutBySide_36 (by decide) ?_
          refine lv_istore_n (lv' := [(3, .int (nI (k + 1))), (0, .ref ob), (1, .int (nI sd)), (2, .int (nI k))]) hx hb d_PC_cutBySide_40 rfl hl (by decide) rfl (fun ls hl => ?_)
          refine lv_aload_n hx hb d_PC_cutBySide_41 rfl (lv_at hl 1 rfl) ?_
          refine lv_iload_n hx hb d_PC_cutBySide_42 rfl (lv_at hl 3 rfl) ?_
          refine lv_iload_n hx hb d_PC_cutBySide_43 rfl (lv_at hl 2 rfl) ?_
          have hPc := hP
          refine vp_callSl (va_Run.run (va_runV (As := [.int (nI k), .int (nI sd)]) (rest := []) ⟨hx, hb, hml, hown, hts⟩ (k_PC_sideNumber l dC dI cJ cI ob wi hi fo gi gia gin gif ke kea kn kef sp spa (nI (pu_cs fo wi hi sd kn kef spf k).1) ((pu_cs fo wi hi sd kn kef spf k).2) pi pia pin pif fa fas fat faa fan faS faT faA k sd (by omega) (by omega) (by omega)) (cwV 2 hts (gd_V wd_141 wd_142 wd_7 wd_33 wd_143) rfl rfl rfl (by decide +kernel) ⟨Nat.le_of_ble_eq_true rfl, Nat.le_of_ble_eq_true rfl⟩) ⟨fb_ro, va_recv hK hPc (ci := 0) (q0 := 0) rfl rfl, pre_ro hK hN hPc⟩ rfl rfl hl.1 rfl (lv_room (Nat.le_of_ble_eq_true rfl)) d_PC_cutBySide_44 ⟨Nat.le_of_ble_eq_true rfl, Nat.le_of_ble_eq_true rfl⟩)) (fun r_26 er_26 => ?_)
          have er_26 : r_26 = pu_side fo wi hi sd kef k := er_26
          refine lv_lconst (v := 0) hx hb d_PC_cutBySide_47 (by decide) ?_
          refine W.lcmp hx hb d_PC_cutBySide_48 ?_
          refine lv_if_lt (tgt := 56) hx hb d_PC_cutBySide_49 (by decide) (fun c_27 => ?_) (fun c_27 => ?_)
          · rw [lg_cmp_lt] at c_27
            have c_27 : r_26 < 0 := c_27
            refine lv_iconst (v := 0) hx hb d_PC_cutBySide_56 (by decide) ?_
            refine lv_istore (lv' := [(4, .int 0), (3, .int (nI (k + 1))), (0, .ref ob), (1, .int (nI sd)), (2, .int (nI k))]) hx hb d_PC_cutBySide_57 hl (by decide) rfl (fun ls hl => ?_)
            refine lv_aload_n hx hb d_PC_cutBySide_59 rfl (lv_at hl 2 rfl) ?_
            refine lv_iload_n hx hb d_PC_cutBySide_60 rfl (lv_at hl 1 rfl) ?_
            refine lv_iload_n hx hb d_PC_cutBySide_61 rfl (lv_at hl 3 rfl) ?_
            have hPc := hP
            refine vp_callSl (va_Run.run (va_runV (As := [.int (nI (k + 1)), .int (nI sd)]) (rest := []) ⟨hx, hb, hml, hown, hts⟩ (k_PC_sideNumber l dC dI cJ cI ob wi hi fo gi gia gin gif ke kea kn kef sp spa (nI (pu_cs fo wi hi sd kn kef spf k).1) ((pu_cs fo wi hi sd kn kef spf k).2) pi pia pin pif fa fas fat faa fan faS faT faA (k + 1) sd (by omega) (by omega) (by omega)) (cwV 2 hts (gd_V wd_141 wd_142 wd_7 wd_33 wd_143) rfl rfl rfl (by decide +kernel) ⟨Nat.le_of_ble_eq_true rfl, Nat.le_of_ble_eq_true rfl⟩) ⟨fb_ro, va_recv hK hPc (ci := 0) (q0 := 0) rfl rfl, pre_ro hK hN hPc⟩ rfl rfl hl.1 rfl (lv_room (Nat.le_of_ble_eq_true rfl)) d_PC_cutBySide_62 ⟨Nat.le_of_ble_eq_true rfl, Nat.le_of_ble_eq_true rfl⟩)) (fun r_28 er_28 => ?_)
            have er_28 : r_28 = pu_side fo wi hi sd kef (k + 1) := er_28
            refine lv_lconst (v := 0) hx hb d_PC_cutBySide_65 (by decide) ?_
            refine W.lcmp hx hb d_PC_cutBySide_66 ?_
            refine lv_if_lt (tgt := 74) hx hb d_PC_cutBySide_67 (by decide) (fun c_29 => ?_) (fun c_29 => ?_)
            · rw [lg_cmp_lt] at c_29
              have c_29 : r_28 < 0 := c_29
              refine lv_iconst (v := 0) hx hb d_PC_cutBySide_74 (by decide) ?_
              refine lv_istore (lv' := [(5, .int 0), (4, .int 0), (3, .int (nI (k + 1))), (0, .ref ob), (1, .int (nI sd)), (2, .int (nI k))]) hx hb d_PC_cutBySide_75 hl (by decide) rfl (fun ls hl => ?_)
              have hnx : pu_nx kn k = k + 1 := if_pos (by omega)
              have h1 : ¬ 0 ≤ pu_side fo wi hi sd kef k := by rw [← er_26]; exact st_lt c_27
              have h2 : ¬ 0 ≤ pu_side fo wi hi sd kef (pu_nx kn k) := by rw [hnx, ← er_28]; exact st_lt c_29
              have hstep := pu_cs_00 (n := kn) (N0 := spf) h1 h2
              have hroom := cb_top (fo := fo) (wi := wi) (hi := hi) (sd := sd) (R := kef) (N0 := spf) (show k < kn by omega) hkn
              rw [hstep] at hroom
              try dsimp only at hroom
              have hnl : k + 1 < kn := by omega
              rw [hnx] at h2
              refine lv_iload hx hb d_PC_cutBySide_77 (lv_at hl 1 rfl) ?_
              refine lv_if_eq (tgt := 94) hx hb d_PC_cutBySide_79 (by decide) (fun _ => ?_) (fun c_30 => absurd (by decide) c_30)
              refine lv_iload hx hb d_PC_cutBySide_94 (lv_at hl 1 rfl) ?_
              refine lv_if_eq (tgt := 114) hx hb d_PC_cutBySide_96 (by decide) (fun _ => ?_) (fun c_31 => absurd (by decide) c_31)
              refine lv_iload hx hb d_PC_cutBySide_114 (lv_at hl 1 rfl) ?_
              refine lv_if_ne (tgt := 131) hx hb d_PC_cutBySide_116 (by decide) (fun c_32 => absurd (by decide) c_32) (fun _ => ?_)
              refine lv_iload hx hb d_PC_cutBySide_119 (lv_at hl 0 rfl) ?_
              refine lv_if_eq (tgt := 131) hx hb d_PC_cutBySide_121 (by decide) (fun _ => ?_) (fun c_33 => absurd (by decide) c_33)
              refine lv_iinc (v := (nI (k + 1))) (lv' := [(2, .int (nI (k + 1))), (5, .int 0), (4, .int 0), (3, .int (nI (k + 1))), (0, .ref ob), (1, .int (nI sd))]) hx hb d_PC_cutBySide_131 hl (k := 5) rfl (nI_1 k) (by decide) rfl (fun ls hl => ?_)
              refine lv_goto (tgt := 9) hx hb d_PC_cutBySide_134 (by decide) ?_
              refine ih (k + 1) (by omega) (by omega) _ _ ?_ ?_ hS ls (lv_sub hl [4, 5, 0] rfl)
              · rw [hstep]; exact hP
              · rw [hstep]; exact hD
            · rw [lg_cmp_lt] at c_29
              have c_29 : ¬ (r_28 < 0) := c_29
              refine lv_iconst (v := 1) hx hb d_PC_cutBySide_70 (by decide) ?_
              refine lv_goto (tgt := 75) hx hb d_PC_cutBySide_71 (by decide) ?_
              refine lv_istore (lv' := [(5, .int 1), (4, .int 0), (3, .int (nI (k + 1))), (0, .ref ob), (1, .int (nI sd)), (2, .int (nI k))]) hx hb d_PC_cutBySide_75 hl (by decide) rfl (fun ls hl => ?_)
              have hnx : pu_nx kn k = k + 1 := if_pos (by omega)
              have h1 : ¬ 0 ≤ pu_side fo wi hi sd kef k := by rw [← er_26]; exact st_lt c_27
              have h2 : 0 ≤ pu_side fo wi hi sd kef (pu_nx kn k) := by rw [hnx, ← er_28]; exact st_ge c_29
              have hstep := pu_cs_01 (n := kn) (N0 := spf) h1 h2
              have hroom := cb_top (fo := fo) (wi := wi) (hi := hi) (sd := sd) (R := kef) (N0 := spf) (show k < kn by omega) hkn
              rw [hstep] at hroom
              try dsimp only at hroom
              have hnl : k + 1 < kn := by omega
              rw [hnx] at hstep h2
              refine lv_iload hx hb d_PC_cutBySide_77 (lv_at hl 1 rfl) ?_
              refine lv_if_eq (tgt := 94) hx hb d_PC_cutBySide_79 (by decide) (fun _ => ?_) (fun c_34 => absurd (by decide) c_34)
              refine lv_iload hx hb d_PC_cutBySide_94 (lv_at hl 1 rfl) ?_
              refine lv_if_eq (tgt := 114) hx hb d_PC_cutBySide_96 (by decide) (fun _ => ?_) (fun c_35 => absurd (by decide) c_35)
              refine lv_iload hx hb d_PC_cutBySide_114 (lv_at hl 1 rfl) ?_
              refine lv_if_ne (tgt := 131) hx hb d_PC_cutBySide_116 (by decide) (fun c_36 => absurd (by decide) c_36) (fun _ => ?_)
              refine lv_iload hx hb d_PC_cutBySide_119 (lv_at hl 0 rfl) ?_
              refine lv_if_eq (tgt := 131) hx hb d_PC_cutBySide_121 (by decide) (fun c_37 => absurd c_37 (by decide)) (fun _ => ?_)
              refine lv_aload_n hx hb d_PC_cutBySide_124 rfl (lv_at hl 3 rfl) ?_
              refine lv_iload_n hx hb d_PC_cutBySide_125 rfl (lv_at hl 2 rfl) ?_
              refine lv_iload_n hx hb d_PC_cutBySide_126 rfl (lv_at hl 5 rfl) ?_
              refine lv_iload_n hx hb d_PC_cutBySide_127 rfl (lv_at hl 4 rfl) ?_
              have hPc := hP
              have hDc := hD.sub (ws' := [(ob, .inr (0, [.int wi, .int hi, .int fo, .ref gi, .ref ke, .ref sp, .ref pi, .ref fa])), (gi, .inr (1, [.ref gia, .int gin])), (gia, .inl (cJ, 114, .inr (.inl gif))), (ke, .inr (1, [.ref kea, .int (nI kn)])), (kea, .inl (cJ, 114, .inr (.inl kef))), (sp, .inr (1, [.ref spa, .int (nI (pu_cs fo wi hi sd kn kef spf k).1)])), (spa, .inl (cJ, 114, .inr (.inl ((pu_cs fo wi hi sd kn kef spf k).2)))), (pi, .inr (1, [.ref pia, .int pin])), (pia, .inl (cJ, 114, .inr (.inl pif))), (fa, .inr (2, [.ref fas, .ref fat, .ref faa, .int fan])), (fas, .inl (cI, 17, .inl faS)), (fat, .inl (cI, 17, .inl faT)), (faa, .inl (cI, 17, .inl faA))]) [0, 1, 2, 3, 4, 5, 6, 7, 8, 9, 10, 11, 12] (by decide) rfl
              have hFc := va_free (wc := [(ob, .inr (0, [.int wi, .int hi, .int fo, .ref gi, .ref ke, .ref sp, .ref pi, .ref fa])), (gi, .inr (1, [.ref gia, .int gin])), (gia, .inl (cJ, 114, .inr (.inl gif))), (ke, .inr (1, [.ref kea, .int (nI kn)])), (kea, .inl (cJ, 114, .inr (.inl kef))), (sp, .inr (1, [.ref spa, .int (nI (pu_cs fo wi hi sd kn kef spf k).1)])), (spa, .inl (cJ, 114, .inr (.inl ((pu_cs fo wi hi sd kn kef spf k).2)))), (pi, .inr (1, [.ref pia, .int pin])), (pia, .inl (cJ, 114, .inr (.inl pif))), (fa, .inr (2, [.ref fas, .ref fat, .ref faa, .int fan])), (fas, .inl (cI, 17, .inl faS)), (fat, .inl (cI, 17, .inl faT)), (faa, .inl (cI, 17, .inl faA))]) hD hS hA [0, 1, 2, 3, 4, 5, 6, 7, 8, 9, 10, 11, 12] rfl
              refine va_callv (va_runV (As := [.int (nI (k + 1)), .int (nI k), .int (nI sd)]) (rest := []) ⟨hx, hb, hml, hown, hts⟩ (k_PC_addBetween l dC dI cJ cI H.size ob wi hi fo gi gia gin gif ke kea kn kef sp spa ((pu_cs fo wi hi sd kn kef spf k).1) ((pu_cs fo wi hi sd kn kef spf k).2) pi pia pin pif fa fas fat faa fan faS faT faA (k + 1) k sd (by omega) (by omega) (by omega) (by omega) (by omega) (cb_pos hfit (hc3 (k + 1) (by omega)) (hc3 (k) (by omega)) h2 h1)) (cwV 3 hts (gd_V wd_145 wd_146 wd_8 wd_33 wd_147) rfl rfl rfl (by decide +kernel) ⟨Nat.le_of_ble_eq_true rfl, Nat.le_of_ble_eq_true rfl⟩) ⟨fb_rw, va_recv hK hPc (ci := 0) (q0 := 0) rfl rfl, pre_rw hK hN hPc hDc⟩ rfl rfl hl.1 rfl (lv_room (Nat.le_of_ble_eq_true rfl)) d_PC_cutBySide_128 ⟨Nat.le_of_ble_eq_true rfl, Nat.le_of_ble_eq_true rfl⟩) hS (fun q _ h => hFc q h) hFc (fun u t H locs ht hvm hw hB hz1 hk1 hS => ?_)
              obtain ⟨hP1, hD1⟩ := hB
              rw [ht] at hP1
              obtain ⟨hP, hD⟩ := va_join (wr := []) (w1 := [(ob, .inr (0, [.int wi, .int hi, .int fo, .ref gi, .ref ke, .ref sp, .ref pi, .ref fa])), (gi, .inr (1, [.ref gia, .int gin])), (gia, .inl (cJ, 114, .inr (.inl gif))), (ke, .inr (1, [.ref kea, .int (nI kn)])), (kea, .inl (cJ, 114, .inr (.inl kef))), (sp, .inr (1, [.ref spa, .int (nI (((pu_cs fo wi hi sd kn kef spf k).1) + 1))])), (spa, .inl (cJ, 114, .inr (.inl (pu_put ((pu_cs fo wi hi sd kn kef spf k).2) ((pu_cs fo wi hi sd kn kef spf k).1) (pu_new fo wi hi sd kef (k + 1) k))))), (pi, .inr (1, [.ref pia, .int pin])), (pia, .inl (cJ, 114, .inr (.inl pif))), (fa, .inr (2, [.ref fas, .ref fat, .ref faa, .int fan])), (fas, .inl (cI, 17, .inl faS)), (fat, .inl (cI, 17, .inl faT)), (faa, .inl (cI, 17, .inl faA))]) hP hD [0, 1, 2, 3, 4, 5, 6, 7, 8, 9, 10, 11, 12] [] rfl rfl (by decide) (by decide) hk1 hFc hP1 hD1
              have hP : va_P (dC, dI) cls4 [(ob, .inr (0, [.int wi, .int hi, .int fo, .ref gi, .ref ke, .ref sp, .ref pi, .ref fa])), (gi, .inr (1, [.ref gia, .int gin])), (gia, .inl (cJ, 114, .inr (.inl gif))), (ke, .inr (1, [.ref kea, .int (nI kn)])), (kea, .inl (cJ, 114, .inr (.inl kef))), (sp, .inr (1, [.ref spa, .int (nI (((pu_cs fo wi hi sd kn kef spf k).1) + 1))])), (spa, .inl (cJ, 114, .inr (.inl (pu_put ((pu_cs fo wi hi sd kn kef spf k).2) ((pu_cs fo wi hi sd kn kef spf k).1) (pu_new fo wi hi sd kef (k + 1) k))))), (pi, .inr (1, [.ref pia, .int pin])), (pia, .inl (cJ, 114, .inr (.inl pif))), (fa, .inr (2, [.ref fas, .ref fat, .ref faa, .int fan])), (fas, .inl (cI, 17, .inl faS)), (fat, .inl (cI, 17, .inl faT)), (faa, .inl (cI, 17, .inl faA))] H := hP
              have hD : va_D A [(ob, .inr (0, [.int wi, .int hi, .int fo, .ref gi, .ref ke, .ref sp, .ref pi, .ref fa])), (gi, .inr (1, [.ref gia, .int gin])), (gia, .inl (cJ, 114, .inr (.inl gif))), (ke, .inr (1, [.ref kea, .int (nI kn)])), (kea, .inl (cJ, 114, .inr (.inl kef))), (sp, .inr (1, [.ref spa, .int (nI (((pu_cs fo wi hi sd kn kef spf k).1) + 1))])), (spa, .inl (cJ, 114, .inr (.inl (pu_put ((pu_cs fo wi hi sd kn kef spf k).2) ((pu_cs fo wi hi sd kn kef spf k).1) (pu_new fo wi hi sd kef (k + 1) k))))), (pi, .inr (1, [.ref pia, .int pin])), (pia, .inl (cJ, 114, .inr (.inl pif))), (fa, .inr (2, [.ref fas, .ref fat, .ref faa, .int fan])), (fas, .inl (cI, 17, .inl faS)), (fat, .inl (cI, 17, .inl faT)), (faa, .inl (cI, 17, .inl faA))] := hD
              refine lv_iinc (v := (nI (k + 1))) (lv' := [(2, .int (nI (k + 1))), (5, .int 1), (4, .int 0), (3, .int (nI (k + 1))), (0, .ref ob), (1, .int (nI sd))]) hx hb d_PC_cutBySide_131 hl (k := 5) rfl (nI_1 k) (by decide) rfl (fun ls hl => ?_)
              refine lv_goto (tgt := 9) hx hb d_PC_cutBySide_134 (by decide) ?_
              refine ih (k + 1) (by omega) (by omega) _ _ ?_ ?_ hS ls (lv_sub hl [4, 5, 0] rfl)
              · rw [hstep]; exact hP
              · rw [hstep]; exact hD
          · rw [lg_cmp_lt] at c_27
            have c_27 : ¬ (r_26 < 0) := c_27
            refine lv_iconst (v := 1) hx hb d_PC_cutBySide_52 (by decide) ?_
            refine lv_goto (tgt := 57) hx hb d_PC_cutBySide_53 (by decide) ?_
            refine lv_istore (lv' := [(4, .int 1), (3, .int (nI (k + 1))), (0, .ref ob), (1, .int (nI sd)), (2, .int (nI k))]) hx hb d_PC_cutBySide_57 hl (by decide) rfl (fun ls hl => ?_)
            refine lv_aload_n hx hb d_PC_cutBySide_59 rfl (lv_at hl 2 rfl) ?_
            refine lv_iload_n hx hb d_PC_cutBySide_60 rfl (lv_at hl 1 rfl) ?_
            refine lv_iload_n hx hb d_PC_cutBySide_61 rfl (lv_at hl 3 rfl) ?_
            have hPc := hP
            refine vp_callSl (va_Run.run (va_runV (As := [.int (nI (k + 1)), .int (nI sd)]) (rest := []) ⟨hx, hb, hml, hown, hts⟩ (k_PC_sideNumber l dC dI cJ cI ob wi hi fo gi gia gin gif ke kea kn kef sp spa (nI (pu_cs fo wi hi sd kn kef spf k).1) ((pu_cs fo wi hi sd kn kef spf k).2) pi pia pin pif fa fas fat faa fan faS faT faA (k + 1) sd (by omega) (by omega) (by omega)) (cwV 2 hts (gd_V wd_141 wd_142 wd_7 wd_33 wd_143) rfl rfl rfl (by decide +kernel) ⟨Nat.le_of_ble_eq_true rfl, Nat.le_of_ble_eq_true rfl⟩) ⟨fb_ro, va_recv hK hPc (ci := 0) (q0 := 0) rfl rfl, pre_ro hK hN hPc⟩ rfl rfl hl.1 rfl (lv_room (Nat.le_of_ble_eq_true rfl)) d_PC_cutBySide_62 ⟨Nat.le_of_ble_eq_true rfl, Nat.le_of_ble_eq_true rfl⟩)) (fun r_38 er_38 => ?_)
            have er_38 : r_38 = pu_side fo wi hi sd kef (k + 1) := er_38
            refine lv_lconst (v := 0) hx hb d_PC_cutBySide_65 (by decide) ?_
            refine W.lcmp hx hb d_PC_cutBySide_66 ?_
            refine lv_if_lt (tgt := 74) hx hb d_PC_cutBySide_67 (by decide) (fun c_39 => ?_) (fun c_39 => ?_)
            · rw [lg_cmp_lt] at c_39
              have c_39 : r_38 < 0 := c_39
              refine lv_iconst (v := 0) hx hb d_PC_cutBySide_74 (by decide) ?_
              refine lv_istore (lv' := [(5, .int 0), (4, .int 1), (3, .int (nI (k + 1))), (0, .ref ob), (1, .int (nI sd)), (2, .int (nI k))]) hx hb d_PC_cutBySide_75 hl (by decide) rfl (fun ls hl => ?_)
              have hnx : pu_nx kn k = k + 1 := if_pos (by omega)
              have h1 : 0 ≤ pu_side fo wi hi sd kef k := by rw [← er_26]; exact st_ge c_27
              have h2 : ¬ 0 ≤ pu_side fo wi hi sd kef (pu_nx kn k) := by rw [hnx, ← er_38]; exact st_lt c_39
              have hstep := pu_cs_10 (n := kn) (N0 := spf) h1 h2
              have hroom := cb_top (fo := fo) (wi := wi) (hi := hi) (sd := sd) (R := kef) (N0 := spf) (show k < kn by omega) hkn
              rw [hstep] at hroom
              try dsimp only at hroom
              have hnl : k + 1 < kn := by omega
              rw [hnx] at hstep h2
              refine lv_iload hx hb d_PC_cutBySide_77 (lv_at hl 1 rfl) ?_
              refine lv_if_eq (tgt := 94) hx hb d_PC_cutBySide_79 (by decide) (fun c_40 => absurd c_40 (by decide)) (fun _ => ?_)
              refine lv_aload_n hx hb d_PC_cutBySide_82 rfl (lv_at hl 3 rfl) ?_
              refine va_get (D := (dC, dI)) (ci := 0) (v := .ref sp) (C := R_PC) (T := F_PC) (N := 8) hx hb hts (fun w h => mw (i_PC w h)) hown hK hP 0 rfl rfl 5 (by decide) (hts _ (mw wd_86)) (fun _ h9 => h9) rfl d_PC_cutBySide_83 ?_
              refine lv_aload_n hx hb d_PC_cutBySide_86 rfl (lv_at hl 3 rfl) ?_
              refine va_get (D := (dC, dI)) (ci := 0) (v := .ref ke) (C := R_PC) (T := F_PC) (N := 8) hx hb hts (fun w h => mw (i_PC w h)) hown hK hP 0 rfl rfl 4 (by decide) (hts _ (mw wd_85)) (fun _ h9 => h9) rfl d_PC_cutBySide_87 ?_
              refine lv_iload_n hx hb d_PC_cutBySide_90 rfl (lv_at hl 5 rfl) ?_
              have hPc := hP.sub (ws' := [(sp, .inr (1, [.ref spa, .int (nI (pu_cs fo wi hi sd kn kef spf k).1)])), (spa, .inl (cJ, 114, .inr (.inl ((pu_cs fo wi hi sd kn kef spf k).2)))), (ke, .inr (1, [.ref kea, .int (nI kn)])), (kea, .inl (cJ, 114, .inr (.inl kef)))]) [5, 6, 3, 4] rfl
              have hDc := hD.sub (ws' := [(sp, .inr (1, [.ref spa, .int (nI (pu_cs fo wi hi sd kn kef spf k).1)])), (spa, .inl (cJ, 114, .inr (.inl ((pu_cs fo wi hi sd kn kef spf k).2)))), (ke, .inr (1, [.ref kea, .int (nI kn)])), (kea, .inl (cJ, 114, .inr (.inl kef)))]) [5, 6, 3, 4] (by decide) rfl
              have hFc := va_free (wc := [(sp, .inr (1, [.ref spa, .int (nI (pu_cs fo wi hi sd kn kef spf k).1)])), (spa, .inl (cJ, 114, .inr (.inl ((pu_cs fo wi hi sd kn kef spf k).2)))), (ke, .inr (1, [.ref kea, .int (nI kn)])), (kea, .inl (cJ, 114, .inr (.inl kef)))]) hD hS hA [5, 6, 3, 4] rfl
              refine va_callv (va_runVN (As := [.ref ke, .int (nI k)]) (rest := []) ⟨hx, hb, hml, hown, hts⟩ (k_Ri_addCopy l dC dI cJ cI H.size sp spa ((pu_cs fo wi hi sd kn kef spf k).1) ((pu_cs fo wi hi sd kn kef spf k).2) ke kea kn kef k (by omega) (by omega) (by omega)) (⟨va_cnB 2 hts (gd_0 wd_132) rfl rfl rfl (hN _ nw_9) (hts _ (mw wd_35)) (by decide +kernel) ⟨Nat.le_of_ble_eq_true rfl, Nat.le_of_ble_eq_true rfl⟩, (hts _ (mw wd_131)), (hts _ (mw wd_4))⟩) ⟨fb_rw, va_recv hK hPc (ci := 1) (q0 := 0) rfl rfl, pre_rw hK hN hPc hDc⟩ rfl rfl hl.1 rfl (lv_room (Nat.le_of_ble_eq_true rfl)) d_PC_cutBySide_91 ⟨Nat.le_of_ble_eq_true rfl, Nat.le_of_ble_eq_true rfl⟩) hS (fun q _ h => hFc q h) hFc (fun u t H locs ht hvm hw hB hz1 hk1 hS => ?_)
              obtain ⟨hP1, hD1⟩ := hB
              rw [ht] at hP1
              obtain ⟨hP, hD⟩ := va_join (wr := [(ob, .inr (0, [.int wi, .int hi, .int fo, .ref gi, .ref ke, .ref sp, .ref pi, .ref fa])), (gi, .inr (1, [.ref gia, .int gin])), (gia, .inl (cJ, 114, .inr (.inl gif))), (pi, .inr (1, [.ref pia, .int pin])), (pia, .inl (cJ, 114, .inr (.inl pif))), (fa, .inr (2, [.ref fas, .ref fat, .ref faa, .int fan])), (fas, .inl (cI, 17, .inl faS)), (fat, .inl (cI, 17, .inl faT)), (faa, .inl (cI, 17, .inl faA))]) (w1 := [(sp, .inr (1, [.ref spa, .int (nI (((pu_cs fo wi hi sd kn kef spf k).1) + 1))])), (spa, .inl (cJ, 114, .inr (.inl (pu_put ((pu_cs fo wi hi sd kn kef spf k).2) ((pu_cs fo wi hi sd kn kef spf k).1) (fun j => kef (6 * k + j)))))), (ke, .inr (1, [.ref kea, .int (nI kn)])), (kea, .inl (cJ, 114, .inr (.inl kef)))]) hP hD [5, 6, 3, 4] [0, 1, 2, 7, 8, 9, 10, 11, 12] rfl rfl (by decide) (by decide) hk1 hFc hP1 hD1
              have hP : va_P (dC, dI) cls4 [(ob, .inr (0, [.int wi, .int hi, .int fo, .ref gi, .ref ke, .ref sp, .ref pi, .ref fa])), (gi, .inr (1, [.ref gia, .int gin])), (gia, .inl (cJ, 114, .inr (.inl gif))), (ke, .inr (1, [.ref kea, .int (nI kn)])), (kea, .inl (cJ, 114, .inr (.inl kef))), (sp, .inr (1, [.ref spa, .int (nI (((pu_cs fo wi hi sd kn kef spf k).1) + 1))])), (spa, .inl (cJ, 114, .inr (.inl (pu_put ((pu_cs fo wi hi sd kn kef spf k).2) ((pu_cs fo wi hi sd kn kef spf k).1) (fun j => kef (6 * k + j)))))), (pi, .inr (1, [.ref pia, .int pin])), (pia, .inl (cJ, 114, .inr (.inl pif))), (fa, .inr (2, [.ref fas, .ref fat, .ref faa, .int fan])), (fas, .inl (cI, 17, .inl faS)), (fat, .inl (cI, 17, .inl faT)), (faa, .inl (cI, 17, .inl faA))] H := hP.sub [0, 1, 2, 11, 12, 9, 10, 3, 4, 5, 6, 7, 8] rfl
              have hD : va_D A [(ob, .inr (0, [.int wi, .int hi, .int fo, .ref gi, .ref ke, .ref sp, .ref pi, .ref fa])), (gi, .inr (1, [.ref gia, .int gin])), (gia, .inl (cJ, 114, .inr (.inl gif))), (ke, .inr (1, [.ref kea, .int (nI kn)])), (kea, .inl (cJ, 114, .inr (.inl kef))), (sp, .inr (1, [.ref spa, .int (nI (((pu_cs fo wi hi sd kn kef spf k).1) + 1))])), (spa, .inl (cJ, 114, .inr (.inl (pu_put ((pu_cs fo wi hi sd kn kef spf k).2) ((pu_cs fo wi hi sd kn kef spf k).1) (fun j => kef (6 * k + j)))))), (pi, .inr (1, [.ref pia, .int pin])), (pia, .inl (cJ, 114, .inr (.inl pif))), (fa, .inr (2, [.ref fas, .ref fat, .ref faa, .int fan])), (fas, .inl (cI, 17, .inl faS)), (fat, .inl (cI, 17, .inl faT)), (faa, .inl (cI, 17, .inl faA))] := hD.sub [0, 1, 2, 11, 12, 9, 10, 3, 4, 5, 6, 7, 8] (by decide) rfl
              refine lv_iload hx hb d_PC_cutBySide_94 (lv_at hl 1 rfl) ?_
              refine lv_if_eq (tgt := 114) hx hb d_PC_cutBySide_96 (by decide) (fun c_41 => absurd c_41 (by decide)) (fun _ => ?_)
              refine lv_iload hx hb d_PC_cutBySide_99 (lv_at hl 0 rfl) ?_
              refine lv_if_ne (tgt := 114) hx hb d_PC_cutBySide_101 (by decide) (fun c_42 => absurd (by decide) c_42) (fun _ => ?_)
              refine lv_aload_n hx hb d_PC_cutBySide_104 rfl (lv_at hl 3 rfl) ?_
              refine lv_iload_n hx hb d_PC_cutBySide_105 rfl (lv_at hl 5 rfl) ?_
              refine lv_iload_n hx hb d_PC_cutBySide_106 rfl (lv_at hl 2 rfl) ?_
              refine lv_iload_n hx hb d_PC_cutBySide_107 rfl (lv_at hl 4 rfl) ?_
              have hPc := hP
              have hDc := hD.sub (ws' := [(ob, .inr (0, [.int wi, .int hi, .int fo, .ref gi, .ref ke, .ref sp, .ref pi, .ref fa])), (gi, .inr (1, [.ref gia, .int gin])), (gia, .inl (cJ, 114, .inr (.inl gif))), (ke, .inr (1, [.ref kea, .int (nI kn)])), (kea, .inl (cJ, 114, .inr (.inl kef))), (sp, .inr (1, [.ref spa, .int (nI (((pu_cs fo wi hi sd kn kef spf k).1) + 1))])), (spa, .inl (cJ, 114, .inr (.inl (pu_put ((pu_cs fo wi hi sd kn kef spf k).2) ((pu_cs fo wi hi sd kn kef spf k).1) (fun j => kef (6 * k + j)))))), (pi, .inr (1, [.ref pia, .int pin])), (pia, .inl (cJ, 114, .inr (.inl pif))), (fa, .inr (2, [.ref fas, .ref fat, .ref faa, .int fan])), (fas, .inl (cI, 17, .inl faS)), (fat, .inl (cI, 17, .inl faT)), (faa, .inl (cI, 17, .inl faA))]) [0, 1, 2, 3, 4, 5, 6, 7, 8, 9, 10, 11, 12] (by decide) rfl
              have hFc := va_free (wc := [(ob, .inr (0, [.int wi, .int hi, .int fo, .ref gi, .ref ke, .ref sp, .ref pi, .ref fa])), (gi, .inr (1, [.ref gia, .int gin])), (gia, .inl (cJ, 114, .inr (.inl gif))), (ke, .inr (1, [.ref kea, .int (nI kn)])), (kea, .inl (cJ, 114, .inr (.inl kef))), (sp, .inr (1, [.ref spa, .int (nI (((pu_cs fo wi hi sd kn kef spf k).1) + 1))])), (spa, .inl (cJ, 114, .inr (.inl (pu_put ((pu_cs fo wi hi sd kn kef spf k).2) ((pu_cs fo wi hi sd kn kef spf k).1) (fun j => kef (6 * k + j)))))), (pi, .inr (1, [.ref pia, .int pin])), (pia, .inl (cJ, 114, .inr (.inl pif))), (fa, .inr (2, [.ref fas, .ref fat, .ref faa, .int fan])), (fas, .inl (cI, 17, .inl faS)), (fat, .inl (cI, 17, .inl faT)), (faa, .inl (cI, 17, .inl faA))]) hD hS hA [0, 1, 2, 3, 4, 5, 6, 7, 8, 9, 10, 11, 12] rfl
              refine va_callv (va_runV (As := [.int (nI k), .int (nI (k + 1)), .int (nI sd)]) (rest := []) ⟨hx, hb, hml, hown, hts⟩ (k_PC_addBetween l dC dI cJ cI H.size ob wi hi fo gi gia gin gif ke kea kn kef sp spa (((pu_cs fo wi hi sd kn kef spf k).1) + 1) (pu_put ((pu_cs fo wi hi sd kn kef spf k).2) ((pu_cs fo wi hi sd kn kef spf k).1) (fun j => kef (6 * k + j))) pi pia pin pif fa fas fat faa fan faS faT faA k (k + 1) sd (by omega) (by omega) (by omega) (by omega) (by omega) (cb_pos hfit (hc3 (k) (by omega)) (hc3 (k + 1) (by omega)) h1 h2)) (cwV 3 hts (gd_V wd_145 wd_146 wd_8 wd_33 wd_147) rfl rfl rfl (by decide +kernel) ⟨Nat.le_of_ble_eq_true rfl, Nat.le_of_ble_eq_true rfl⟩) ⟨fb_rw, va_recv hK hPc (ci := 0) (q0 := 0) rfl rfl, pre_rw hK hN hPc hDc⟩ rfl rfl hl.1 rfl (lv_room (Nat.le_of_ble_eq_true rfl)) d_PC_cutBySide_108 ⟨Nat.le_of_ble_eq_true rfl, Nat.le_of_ble_eq_true rfl⟩) hS (fun q _ h => hFc q h) hFc (fun u t H locs ht hvm hw hB hz1 hk1 hS => ?_)
              obtain ⟨hP1, hD1⟩ := hB
              rw [ht] at hP1
              obtain ⟨hP, hD⟩ := va_join (wr := []) (w1 := [(ob, .inr (0, [.int wi, .int hi, .int fo, .ref gi, .ref ke, .ref sp, .ref pi, .ref fa])), (gi, .inr (1, [.ref gia, .int gin])), (gia, .inl (cJ, 114, .inr (.inl gif))), (ke, .inr (1, [.ref kea, .int (nI kn)])), (kea, .inl (cJ, 114, .inr (.inl kef))), (sp, .inr (1, [.ref spa, .int (nI ((((pu_cs fo wi hi sd kn kef spf k).1) + 1) + 1))])), (spa, .inl (cJ, 114, .inr (.inl (pu_put (pu_put ((pu_cs fo wi hi sd kn kef spf k).2) ((pu_cs fo wi hi sd kn kef spf k).1) (fun j => kef (6 * k + j))) (((pu_cs fo wi hi sd kn kef spf k).1) + 1) (pu_new fo wi hi sd kef k (k + 1)))))), (pi, .inr (1, [.ref pia, .int pin])), (pia, .inl (cJ, 114, .inr (.inl pif))), (fa, .inr (2, [.ref fas, .ref fat, .ref faa, .int fan])), (fas, .inl (cI, 17, .inl faS)), (fat, .inl (cI, 17, .inl faT)), (faa, .inl (cI, 17, .inl faA))]) hP hD [0, 1, 2, 3, 4, 5, 6, 7, 8, 9, 10, 11, 12] [] rfl rfl (by decide) (by decide) hk1 hFc hP1 hD1
              have hP : va_P (dC, dI) cls4 [(ob, .inr (0, [.int wi, .int hi, .int fo, .ref gi, .ref ke, .ref sp, .ref pi, .ref fa])), (gi, .inr (1, [.ref gia, .int gin])), (gia, .inl (cJ, 114, .inr (.inl gif))), (ke, .inr (1, [.ref kea, .int (nI kn)])), (kea, .inl (cJ, 114, .inr (.inl kef))), (sp, .inr (1, [.ref spa, .int (nI ((((pu_cs fo wi hi sd kn kef spf k).1) + 1) + 1))])), (spa, .inl (cJ, 114, .inr (.inl (pu_put (pu_put ((pu_cs fo wi hi sd kn kef spf k).2) ((pu_cs fo wi hi sd kn kef spf k).1) (fun j => kef (6 * k + j))) (((pu_cs fo wi hi sd kn kef spf k).1) + 1) (pu_new fo wi hi sd kef k (k + 1)))))), (pi, .inr (1, [.ref pia, .int pin])), (pia, .inl (cJ, 114, .inr (.inl pif))), (fa, .inr (2, [.ref fas, .ref fat, .ref faa, .int fan])), (fas, .inl (cI, 17, .inl faS)), (fat, .inl (cI, 17, .inl faT)), (faa, .inl (cI, 17, .inl faA))] H := hP
              have hD : va_D A [(ob, .inr (0, [.int wi, .int hi, .int fo, .ref gi, .ref ke, .ref sp, .ref pi, .ref fa])), (gi, .inr (1, [.ref gia, .int gin])), (gia, .inl (cJ, 114, .inr (.inl gif))), (ke, .inr (1, [.ref kea, .int (nI kn)])), (kea, .inl (cJ, 114, .inr (.inl kef))), (sp, .inr (1, [.ref spa, .int (nI ((((pu_cs fo wi hi sd kn kef spf k).1) + 1) + 1))])), (spa, .inl (cJ, 114, .inr (.inl (pu_put (pu_put ((pu_cs fo wi hi sd kn kef spf k).2) ((pu_cs fo wi hi sd kn kef spf k).1) (fun j => kef (6 * k + j))) (((pu_cs fo wi hi sd kn kef spf k).1) + 1) (pu_new fo wi hi sd kef k (k + 1)))))), (pi, .inr (1, [.ref pia, .int pin])), (pia, .inl (cJ, 114, .inr (.inl pif))), (fa, .inr (2, [.ref fas, .ref fat, .ref faa, .int fan])), (fas, .inl (cI, 17, .inl faS)), (fat, .inl (cI, 17, .inl faT)), (faa, .inl (cI, 17, .inl faA))] := hD
              refine lv_goto (tgt := 131) hx hb d_PC_cutBySide_111 (by decide) ?_
              refine lv_iinc (v := (nI (k + 1))) (lv' := [(2, .int (nI (k + 1))), (5, .int 0), (4, .int 1), (3, .int (nI (k + 1))), (0, .ref ob), (1, .int (nI sd))]) hx hb d_PC_cutBySide_131 hl (k := 5) rfl (nI_1 k) (by decide) rfl (fun ls hl => ?_)
              refine lv_goto (tgt := 9) hx hb d_PC_cutBySide_134 (by decide) ?_
              refine ih (k + 1) (by omega) (by omega) _ _ ?_ ?_ hS ls (lv_sub hl [4, 5, 0] rfl)
              · rw [hstep]; exact hP
              · rw [hstep]; exact hD
            · rw [lg_cmp_lt] at c_39
              have c_39 : ¬ (r_38 < 0) := c_39
              refine lv_iconst (v := 1) hx hb d_PC_cutBySide_70 (by decide) ?_
              refine lv_goto (tgt := 75) hx hb d_PC_cutBySide_71 (by decide) ?_
              refine lv_istore (lv' := [(5, .int 1), (4, .int 1), (3, .int (nI (k + 1))), (0, .ref ob), (1, .int (nI sd)), (2, .int (nI k))]) hx hb d_PC_cutBySide_75 hl (by decide) rfl (fun ls hl => ?_)
              have hnx : pu_nx kn k = k + 1 := if_pos (by omega)
              have h1 : 0 ≤ pu_side fo wi hi sd kef k := by rw [← er_26]; exact st_ge c_27
              have h2 : 0 ≤ pu_side fo wi hi sd kef (pu_nx kn k) := by rw [hnx, ← er_38]; exact st_ge c_39
              have hstep := pu_cs_11 (n := kn) (N0 := spf) h1 h2
              have hroom := cb_top (fo := fo) (wi := wi) (hi := hi) (sd := sd) (R := kef) (N0 := spf) (show k < kn by omega) hkn
              rw [hstep] at hroom
              try dsimp only at hroom
              have hnl : k + 1 < kn := by omega
              rw [hnx] at h2
              refine lv_iload hx hb d_PC_cutBySide_77 (lv_at hl 1 rfl) ?_
              refine lv_if_eq (tgt := 94) hx hb d_PC_cutBySide_79 (by decide) (fun c_43 => absurd c_43 (by decide)) (fun _ => ?_)
              refine lv_aload_n hx hb d_PC_cutBySide_82 rfl (lv_at hl 3 rfl) ?_
              refine va_get (D := (dC, dI)) (ci := 0) (v := .ref sp) (C := R_PC) (T := F_PC) (N := 8) hx hb hts (fun w h => mw (i_PC w h)) hown hK hP 0 rfl rfl 5 (by decide) (hts _ (mw wd_86)) (fun _ h9 => h9) rfl d_PC_cutBySide_83 ?_
              refine lv_aload_n hx hb d_PC_cutBySide_86 rfl (lv_at hl 3 rfl) ?_
              refine va_get (D := (dC, dI)) (ci := 0) (v := .ref ke) (C := R_PC) (T := F_PC) (N := 8) hx hb hts (fun w h => mw (i_PC w h)) hown hK hP 0 rfl rfl 4 (by decide) (hts _ (mw wd_85)) (fun _ h9 => h9) rfl d_PC_cutBySide_87 ?_
              refine lv_iload_n hx hb d_PC_cutBySide_90 rfl (lv_at hl 5 rfl) ?_
              have hPc := hP.sub (ws' := [(sp, .inr (1, [.ref spa, .int (nI (pu_cs fo wi hi sd kn kef spf k).1)])), (spa, .inl (cJ, 114, .inr (.inl ((pu_cs fo wi hi sd kn kef spf k).2)))), (ke, .inr (1, [.ref kea, .int (nI kn)])), (kea, .inl (cJ, 114, .inr (.inl kef)))]) [5, 6, 3, 4] rfl
              have hDc := hD.sub (ws' := [(sp, .inr (1, [.ref spa, .int (nI (pu_cs fo wi hi sd kn kef spf k).1)])), (spa, .inl (cJ, 114, .inr (.inl ((pu_cs fo wi hi sd kn kef spf k).2)))), (ke, .inr (1, [.ref kea, .int (nI kn)])), (kea, .inl (cJ, 114, .inr (.inl kef)))]) [5, 6, 3, 4] (by decide) rfl
              have hFc := va_free (wc := [(sp, .inr (1, [.ref spa, .int (nI (pu_cs fo wi hi sd kn kef spf k).1)])), (spa, .inl (cJ, 114, .inr (.inl ((pu_cs fo wi hi sd kn kef spf k).2)))), (ke, .inr (1, [.ref kea, .int (nI kn)])), (kea, .inl (cJ, 114, .inr (.inl kef)))]) hD hS hA [5, 6, 3, 4] rfl
              refine va_callv (va_runVN (As := [.ref ke, .int (nI k)]) (rest := []) ⟨hx, hb, hml, hown, hts⟩ (k_Ri_addCopy l dC dI cJ cI H.size sp spa ((pu_cs fo wi hi sd kn kef spf k).1) ((pu_cs fo wi hi sd kn kef spf k).2) ke kea kn kef k (by omega) (by omega) (by omega)) (⟨va_cnB 2 hts (gd_0 wd_132) rfl rfl rfl (hN _ nw_9) (hts _ (mw wd_35)) (by decide +kernel) ⟨Nat.le_of_ble_eq_true rfl, Nat.le_of_ble_eq_true rfl⟩, (hts _ (mw wd_131)), (hts _ (mw wd_4))⟩) ⟨fb_rw, va_recv hK hPc (ci := 1) (q0 := 0) rfl rfl, pre_rw hK hN hPc hDc⟩ rfl rfl hl.1 rfl (lv_room (Nat.le_of_ble_eq_true rfl)) d_PC_cutBySide_91 ⟨Nat.le_of_ble_eq_true rfl, Nat.le_of_ble_eq_true rfl⟩) hS (fun q _ h => hFc q h) hFc (fun u t H locs ht hvm hw hB hz1 hk1 hS => ?_)
              obtain ⟨hP1, hD1⟩ := hB
              rw [ht] at hP1
              obtain ⟨hP, hD⟩ := va_join (wr := [(ob, .inr (0, [.int wi, .int hi, .int fo, .ref gi, .ref ke, .ref sp, .ref pi, .ref fa])), (gi, .inr (1, [.ref gia, .int gin])), (gia, .inl (cJ, 114, .inr (.inl gif))), (pi, .inr (1, [.ref pia, .int pin])), (pia, .inl (cJ, 114, .inr (.inl pif))), (fa, .inr (2, [.ref fas, .ref fat, .ref faa, .int fan])), (fas, .inl (cI, 17, .inl faS)), (fat, .inl (cI, 17, .inl faT)), (faa, .inl (cI, 17, .inl faA))]) (w1 := [(sp, .inr (1, [.ref spa, .int (nI (((pu_cs fo wi hi sd kn kef spf k).1) + 1))])), (spa, .inl (cJ, 114, .inr (.inl (pu_put ((pu_cs fo wi hi sd kn kef spf k).2) ((pu_cs fo wi hi sd kn kef spf k).1) (fun j => kef (6 * k + j)))))), (ke, .inr (1, [.ref kea, .int (nI kn)])), (kea, .inl (cJ, 114, .inr (.inl kef)))]) hP hD [5, 6, 3, 4] [0, 1, 2, 7, 8, 9, 10, 11, 12] rfl rfl (by decide) (by decide) hk1 hFc hP1 hD1
              have hP : va_P (dC, dI) cls4 [(ob, .inr (0, [.int wi, .int hi, .int fo, .ref gi, .ref ke, .ref sp, .ref pi, .ref fa])), (gi, .inr (1, [.ref gia, .int gin])), (gia, .inl (cJ, 114, .inr (.inl gif))), (ke, .inr (1, [.ref kea, .int (nI kn)])), (kea, .inl (cJ, 114, .inr (.inl kef))), (sp, .inr (1, [.ref spa, .int (nI (((pu_cs fo wi hi sd kn kef spf k).1) + 1))])), (spa, .inl (cJ, 114, .inr (.inl (pu_put ((pu_cs fo wi hi sd kn kef spf k).2) ((pu_cs fo wi hi sd kn kef spf k).1) (fun j => kef (6 * k + j)))))), (pi, .inr (1, [.ref pia, .int pin])), (pia, .inl (cJ, 114, .inr (.inl pif))), (fa, .inr (2, [.ref fas, .ref fat, .ref faa, .int fan])), (fas, .inl (cI, 17, .inl faS)), (fat, .inl (cI, 17, .inl faT)), (faa, .inl (cI, 17, .inl faA))] H := hP.sub [0, 1, 2, 11, 12, 9, 10, 3, 4, 5, 6, 7, 8] rfl
              have hD : va_D A [(ob, .inr (0, [.int wi, .int hi, .int fo, .ref gi, .ref ke, .ref sp, .ref pi, .ref fa])), (gi, .inr (1, [.ref gia, .int gin])), (gia, .inl (cJ, 114, .inr (.inl gif))), (ke, .inr (1, [.ref kea, .int (nI kn)])), (kea, .inl (cJ, 114, .inr (.inl kef))), (sp, .inr (1, [.ref spa, .int (nI (((pu_cs fo wi hi sd kn kef spf k).1) + 1))])), (spa, .inl (cJ, 114, .inr (.inl (pu_put ((pu_cs fo wi hi sd kn kef spf k).2) ((pu_cs fo wi hi sd kn kef spf k).1) (fun j => kef (6 * k + j)))))), (pi, .inr (1, [.ref pia, .int pin])), (pia, .inl (cJ, 114, .inr (.inl pif))), (fa, .inr (2, [.ref fas, .ref fat, .ref faa, .int fan])), (fas, .inl (cI, 17, .inl faS)), (fat, .inl (cI, 17, .inl faT)), (faa, .inl (cI, 17, .inl faA))] := hD.sub [0, 1, 2, 11, 12, 9, 10, 3, 4, 5, 6, 7, 8] (by decide) rfl
              refine lv_iload hx hb d_PC_cutBySide_94 (lv_at hl 1 rfl) ?_
              refine lv_if_eq (tgt := 114) hx hb d_PC_cutBySide_96 (by decide) (fun c_44 => absurd c_44 (by decide)) (fun _ => ?_)
              refine lv_iload hx hb d_PC_cutBySide_99 (lv_at hl 0 rfl) ?_
              refine lv_if_ne (tgt := 114) hx hb d_PC_cutBySide_101 (by decide) (fun _ => ?_) (fun c_45 => absurd c_45 (by decide))
              refine lv_iload hx hb d_PC_cutBySide_114 (lv_at hl 1 rfl) ?_
              refine lv_if_ne (tgt := 131) hx hb d_PC_cutBySide_116 (by decide) (fun _ => ?_) (fun c_46 => absurd c_46 (by decide))
              refine lv_iinc (v := (nI (k + 1))) (lv' := [(2, .int (nI (k + 1))), (5, .int 1), (4, .int 1), (3, .int (nI (k + 1))), (0, .ref ob), (1, .int (nI sd))]) hx hb d_PC_cutBySide_131 hl (k := 5) rfl (nI_1 k) (by decide) rfl (fun ls hl => ?_)
              refine lv_goto (tgt := 9) hx hb d_PC_cutBySide_134 (by decide) ?_
              refine ih (k + 1) (by omega) (by omega) _ _ ?_ ?_ hS ls (lv_sub hl [4, 5, 0] rfl)
              · rw [hstep]; exact hP
              · rw [hstep]; exact hD
  refine lv_aload_n hx hb d_PC_cutBySide_0 rfl (lv_at hl 0 rfl) ?_
  refine va_get (D := (dC, dI)) (ci := 0) (v := .ref sp) (C := R_PC) (T := F_PC) (N := 8) hx hb hts (fun w h => mw (i_PC w h)) hown hK hP 0 rfl rfl 5 (by decide) (hts _ (mw wd_86)) (fun _ h9 => h9) rfl d_PC_cutBySide_1 ?_
  have hPc := hP.sub (ws' := [(sp, .inr (1, [.ref spa, .int spn])), (spa, .inl (cJ, 114, .inr (.inl spf)))]) [5, 6] rfl
  have hDc := hD.sub (ws' := [(sp, .inr (1, [.ref spa, .int spn])), (spa, .inl (cJ, 114, .inr (.inl spf)))]) [5, 6] (by decide) rfl
  have hFc := va_free (wc := [(sp, .inr (1, [.ref spa, .int spn])), (spa, .inl (cJ, 114, .inr (.inl spf)))]) hD hS hA [5, 6] rfl
  refine va_callv (va_runVN (As := []) (rest := []) ⟨hx, hb, hml, hown, hts⟩ (c_Ri_clear l dC dI cJ cI s.heap.size sp spa spn spf) (⟨va_cnB 0 hts (gd_0 wd_130) rfl rfl rfl (hN _ nw_8) (hts _ (mw wd_35)) (by decide +kernel) ⟨Nat.le_of_ble_eq_true rfl, Nat.le_of_ble_eq_true rfl⟩, (hts _ (mw wd_129)), (hts _ (mw wd_3))⟩) ⟨fb_rw, va_recv hK hPc (ci := 1) (q0 := 0) rfl rfl, pre_rw hK hN hPc hDc⟩ rfl rfl hl.1 rfl (lv_room (Nat.le_of_ble_eq_true rfl)) d_PC_cutBySide_4 ⟨Nat.le_of_ble_eq_true rfl, Nat.le_of_ble_eq_true rfl⟩) hS (fun q _ h => hFc q h) hFc (fun u t H locs ht hvm hw hB hz1 hk1 hS => ?_)
  obtain ⟨hP1, hD1⟩ := hB
  rw [ht] at hP1
  obtain ⟨hP, hD⟩ := va_join (wr := [(ob, .inr (0, [.int wi, .int hi, .int fo, .ref gi, .ref ke, .ref sp, .ref pi, .ref fa])), (gi, .inr (1, [.ref gia, .int gin])), (gia, .inl (cJ, 114, .inr (.inl gif))), (ke, .inr (1, [.ref kea, .int (nI kn)])), (kea, .inl (cJ, 114, .inr (.inl kef))), (pi, .inr (1, [.ref pia, .int pin])), (pia, .inl (cJ, 114, .inr (.inl pif))), (fa, .inr (2, [.ref fas, .ref fat, .ref faa, .int fan])), (fas, .inl (cI, 17, .inl faS)), (fat, .inl (cI, 17, .inl faT)), (faa, .inl (cI, 17, .inl faA))]) (w1 := [(sp, .inr (1, [.ref spa, .int 0])), (spa, .inl (cJ, 114, .inr (.inl spf)))]) hP hD [5, 6] [0, 1, 2, 3, 4, 7, 8, 9, 10, 11, 12] rfl rfl (by decide) (by decide) hk1 hFc hP1 hD1
  have hP : va_P (dC, dI) cls4 [(ob, .inr (0, [.int wi, .int hi, .int fo, .ref gi, .ref ke, .ref sp, .ref pi, .ref fa])), (gi, .inr (1, [.ref gia, .int gin])), (gia, .inl (cJ, 114, .inr (.inl gif))), (ke, .inr (1, [.ref kea, .int (nI kn)])), (kea, .inl (cJ, 114, .inr (.inl kef))), (sp, .inr (1, [.ref spa, .int 0])), (spa, .inl (cJ, 114, .inr (.inl spf))), (pi, .inr (1, [.ref pia, .int pin])), (pia, .inl (cJ, 114, .inr (.inl pif))), (fa, .inr (2, [.ref fas, .ref fat, .ref faa, .int fan])), (fas, .inl (cI, 17, .inl faS)), (fat, .inl (cI, 17, .inl faT)), (faa, .inl (cI, 17, .inl faA))] H := hP.sub [0, 1, 2, 3, 4, 11, 12, 5, 6, 7, 8, 9, 10] rfl
  have hD : va_D A [(ob, .inr (0, [.int wi, .int hi, .int fo, .ref gi, .ref ke, .ref sp, .ref pi, .ref fa])), (gi, .inr (1, [.ref gia, .int gin])), (gia, .inl (cJ, 114, .inr (.inl gif))), (ke, .inr (1, [.ref kea, .int (nI kn)])), (kea, .inl (cJ, 114, .inr (.inl kef))), (sp, .inr (1, [.ref spa, .int 0])), (spa, .inl (cJ, 114, .inr (.inl spf))), (pi, .inr (1, [.ref pia, .int pin])), (pia, .inl (cJ, 114, .inr (.inl pif))), (fa, .inr (2, [.ref fas, .ref fat, .ref faa, .int fan])), (fas, .inl (cI, 17, .inl faS)), (fat, .inl (cI, 17, .inl faT)), (faa, .inl (cI, 17, .inl faA))] := hD.sub [0, 1, 2, 3, 4, 11, 12, 5, 6, 7, 8, 9, 10] (by decide) rfl
  refine lv_iconst (v := 0) hx hb d_PC_cutBySide_7 (by decide) ?_
  refine lv_istore_n (lv' := [(2, .int 0), (0, .ref ob), (1, .int (nI sd))]) hx hb d_PC_cutBySide_8 rfl hl (by decide) rfl (fun ls hl => ?_)
  exact LOOP (kn + 1) 0 (by omega) (by omega) _ _ hP hD hS ls (lv_sub hl [1, 2, 0] rfl)
end
section
set_option maxHeartbeats 4000000 in
set_option maxRecDepth 100000 in
theorem c_PC_layOnPicture (l : Launch) (dC : Nat → ClassId) (dI : Nat → Nat → Nat) (cJ cI : ClassId) (sz : Nat) (ob : Nat) (wi : Int32) (hi : Int32) (fo : Int32) (gi : Nat) (gia : Nat) (gin : Int32) (gif : Nat → Int64) (ke : Nat) (kea : Nat) (kn : Nat) (kef : Nat → Int64) (sp : Nat) (spa : Nat) (spn : Int32) (spf : Nat → Int64) (pi : Nat) (pia : Nat) (pin : Int32) (pif : Nat → Int64) (fa : Nat) (fas : Nat) (fat : Nat) (faa : Nat) (fan : Int32) (faS : Nat → Int32) (faT : Nat → Int32) (faA : Nat → Int32) (hkn : kn ≤ 19) (hz : ∀ c, c < kn → 0 < (kef (6 * c + 2)).toInt) : Met l y_PC_layOnPicture w_PC_layOnPicture ({ frames := 3, cells := 0, slots := 0, locals := 69 } : Room) (rq_rw (dC, dI) cJ cI sz [.ref ob] [(ob, .inr (0, [.int wi, .int hi, .int fo, .ref gi, .ref ke, .ref sp, .ref pi, .ref fa])), (gi, .inr (1, [.ref gia, .int gin])), (gia, .inl (cJ, 114, .inr (.inl gif))), (ke, .inr (1, [.ref kea, .int (nI kn)])), (kea, .inl (cJ, 114, .inr (.inl kef))), (sp, .inr (1, [.ref spa, .int spn])), (spa, .inl (cJ, 114, .inr (.inl spf))), (pi, .inr (1, [.ref pia, .int pin])), (pia, .inl (cJ, 114, .inr (.inl pif))), (fa, .inr (2, [.ref fas, .ref fat, .ref faa, .int fan])), (fas, .inl (cI, 17, .inl faS)), (fat, .inl (cI, 17, .inl faT)), (faa, .inl (cI, 17, .inl faA))]) (va_Qv (fun _ : Unit => True) (rz (dC, dI) (va_A [(ob, .inr (0, [.int wi, .int hi, .int fo, .ref gi, .ref ke, .ref sp, .ref pi, .ref fa])), (gi, .inr (1, [.ref gia, .int gin])), (gia, .inl (cJ, 114, .inr (.inl gif))), (ke, .inr (1, [.ref kea, .int (nI kn)])), (kea, .inl (cJ, 114, .inr (.inl kef))), (sp, .inr (1, [.ref spa, .int spn])), (spa, .inl (cJ, 114, .inr (.inl spf))), (pi, .inr (1, [.ref pia, .int pin])), (pia, .inl (cJ, 114, .inr (.inl pif))), (fa, .inr (2, [.ref fas, .ref fat, .ref faa, .int fan])), (fas, .inl (cI, 17, .inl faS)), (fat, .inl (cI, 17, .inl faT)), (faa, .inl (cI, 17, .inl faA))] sz) [(ob, .inr (0, [.int wi, .int hi, .int fo, .ref gi, .ref ke, .ref sp, .ref pi, .ref fa])), (gi, .inr (1, [.ref gia, .int gin])), (gia, .inl (cJ, 114, .inr (.inl gif))), (ke, .inr (1, [.ref kea, .int (nI kn)])), (kea, .inl (cJ, 114, .inr (.inl kef))), (sp, .inr (1, [.ref spa, .int spn])), (spa, .inl (cJ, 114, .inr (.inl spf))), (pi, .inr (1, [.ref pia, .int (nI kn)])), (pia, .inl (cJ, 114, .inr (.inl (pu_pics fo wi hi kef pif kn)))), (fa, .inr (2, [.ref fas, .ref fat, .ref faa, .int fan])), (fas, .inl (cI, 17, .inl faS)), (fat, .inl (cI, 17, .inl faT)), (faa, .inl (cI, 17, .inl faA))]) (va_A [(ob, .inr (0, [.int wi, .int hi, .int fo, .ref gi, .ref ke, .ref sp, .ref pi, .ref fa])), (gi, .inr (1, [.ref gia, .int gin])), (gia, .inl (cJ, 114, .inr (.inl gif))), (ke, .inr (1, [.ref kea, .int (nI kn)])), (kea, .inl (cJ, 114, .inr (.inl kef))), (sp, .inr (1, [.ref spa, .int spn])), (spa, .inl (cJ, 114, .inr (.inl spf))), (pi, .inr (1, [.ref pia, .int pin])), (pia, .inl (cJ, 114, .inr (.inl pif))), (fa, .inr (2, [.ref fas, .ref fat, .ref faa, .int fan])), (fas, .inl (cI, 17, .inl faS)), (fat, .inl (cI, 17, .inl faT)), (faa, .inl (cI, 17, .inl faA))] sz)) 0 0 (va_A [(ob, .inr (0, [.int wi, .int hi, .int fo, .ref gi, .ref ke, .ref sp, .ref pi, .ref fa])), (gi, .inr (1, [.ref gia, .int gin])), (gia, .inl (cJ, 114, .inr (.inl gif))), (ke, .inr (1, [.ref kea, .int (nI kn)])), (kea, .inl (cJ, 114, .inr (.inl kef))), (sp, .inr (1, [.ref spa, .int spn])), (spa, .inl (cJ, 114, .inr (.inl spf))), (pi, .inr (1, [.ref pia, .int pin])), (pia, .inl (cJ, 114, .inr (.inl pif))), (fa, .inr (2, [.ref fas, .ref fat, .ref faa, .int fan])), (fas, .inl (cI, 17, .inl faS)), (fat, .inl (cI, 17, .inl faT)), (faa, .inl (cI, 17, .inl faA))] sz) := by
  refine Met.ofW (cc := b_PC_layOnPicture) (maxL := 4) (ret := none) (by decide) rfl ?_
  intro p e s m args below meth c s₁ B hml hv
  obtain ⟨rfl, hsz, hP, hK, hN, hD0⟩ := hv
  have hx := B.exec
  have hb := B.bytes
  have hr := B.returns
  have hts := atoms_spec (ws := w_PC_layOnPicture) B.pre
  have hown : s.vm.findClass R_PC = some m.cls := findClass_of_methodNamed B.named
  have hlocks := B.notSynchronized
  subst hsz
  have hD := hD0.self (sz := s.heap.size)
  generalize hAe : va_A [(ob, .inr (0, [.int wi, .int hi, .int fo, .ref gi, .ref ke, .ref sp, .ref pi, .ref fa])), (gi, .inr (1, [.ref gia, .int gin])), (gia, .inl (cJ, 114, .inr (.inl gif))), (ke, .inr (1, [.ref kea, .int (nI kn)])), (kea, .inl (cJ, 114, .inr (.inl kef))), (sp, .inr (1, [.ref spa, .int spn])), (spa, .inl (cJ, 114, .inr (.inl spf))), (pi, .inr (1, [.ref pia, .int pin])), (pia, .inl (cJ, 114, .inr (.inl pif))), (fa, .inr (2, [.ref fas, .ref fat, .ref faa, .int fan])), (fas, .inl (cI, 17, .inl faS)), (fat, .inl (cI, 17, .inl faT)), (faa, .inl (cI, 17, .inl faA))] s.heap.size = A at hD ⊢
  have hA : ∀ q : Nat, s.heap.size ≤ q → A q := fun q h => by rw [← hAe]; exact Or.inr h
  have hS : va_S A s.heap s.heap [] := va_S.rf
  have hl := lv_entry ([.ref ob]) (n := 4) (Nat.le_of_ble_eq_true rfl)
  rw [lg_entry_eq]
  generalize (lg_sl ([.ref ob]) ++ List.replicate (4 - (lg_sl ([.ref ob])).length) Slot.unset).toArray = ls at hl ⊢
  have hl : lv_has ls 4 [(0, .ref ob)] := hl
  have hP : va_P (dC, dI) cls4 [(ob, .inr (0, [.int wi, .int hi, .int fo, .ref gi, .ref ke, .ref sp, .ref pi, .ref fa])), (gi, .inr (1, [.ref gia, .int gin])), (gia, .inl (cJ, 114, .inr (.inl gif))), (ke, .inr (1, [.ref kea, .int (nI kn)])), (kea, .inl (cJ, 114, .inr (.inl kef))), (sp, .inr (1, [.ref spa, .int spn])), (spa, .inl (cJ, 114, .inr (.inl spf))), (pi, .inr (1, [.ref pia, .int pin])), (pia, .inl (cJ, 114, .inr (.inl pif))), (fa, .inr (2, [.ref fas, .ref fat, .ref faa, .int fan])), (fas, .inl (cI, 17, .inl faS)), (fat, .inl (cI, 17, .inl faT)), (faa, .inl (cI, 17, .inl faA))] s.heap := hP
  have LOOP : ∀ (n : Nat) (k : Nat), (k ≤ kn) → (kn + 1 ≤ k + n) → ∀ (H : Heap) (locs : List Loc), va_P (dC, dI) cls4 [(ob, .inr (0, [.int wi, .int hi, .int fo, .ref gi, .ref ke, .ref sp, .ref pi, .ref fa])), (gi, .inr (1, [.ref gia, .int gin])), (gia, .inl (cJ, 114, .inr (.inl gif))), (ke, .inr (1, [.ref kea, .int (nI kn)])), (kea, .inl (cJ, 114, .inr (.inl kef))), (sp, .inr (1, [.ref spa, .int spn])), (spa, .inl (cJ, 114, .inr (.inl spf))), (pi, .inr (1, [.ref pia, .int (nI k)])), (pia, .inl (cJ, 114, .inr (.inl (pu_pics fo wi hi kef pif k)))), (fa, .inr (2, [.ref fas, .ref fat, .ref faa, .int fan])), (fas, .inl (cI, 17, .inl faS)), (fat, .inl (cI, 17, .inl faT)), (faa, .inl (cI, 17, .inl faA))] H → va_D A [(ob, .inr (0, [.int wi, .int hi, .int fo, .ref gi, .ref ke, .ref sp, .ref pi, .ref fa])), (gi, .inr (1, [.ref gia, .int gin])), (gia, .inl (cJ, 114, .inr (.inl gif))), (ke, .inr (1, [.ref kea, .int (nI kn)])), (kea, .inl (cJ, 114, .inr (.inl kef))), (sp, .inr (1, [.ref spa, .int spn])), (spa, .inl (cJ, 114, .inr (.inl spf))), (pi, .inr (1, [.ref pia, .int (nI k)])), (pia, .inl (cJ, 114, .inr (.inl (pu_pics fo wi hi kef pif k)))), (fa, .inr (2, [.ref fas, .ref fat, .ref faa, .int fan])), (fas, .inl (cI, 17, .inl faS)), (fat, .inl (cI, 17, .inl faT)), (faa, .inl (cI, 17, .inl faA))] → va_S A s.heap H locs → ∀ (ls : Array Slot), lv_has ls 4 [(0, .ref ob), (1, .int (nI k))] → W p l e (headSpec w_PC_layOnPicture ({ frames := 3, cells := 0, slots := 0, locals := 69 } : Room)).room s m ([.ref ob] : List Value).toArray below meth c H locs 0 0 (MQ below (va_Qv (fun _ : Unit => True) (rz (dC, dI) A [(ob, .inr (0, [.int wi, .int hi, .int fo, .ref gi, .ref ke, .ref sp, .ref pi, .ref fa])), (gi, .inr (1, [.ref gia, .int gin])), (gia, .inl (cJ, 114, .inr (.inl gif))), (ke, .inr (1, [.ref kea, .int (nI kn)])), (kea, .inl (cJ, 114, .inr (.inl kef))), (sp, .inr (1, [.ref spa, .int spn])), (spa, .inl (cJ, 114, .inr (.inl spf))), (pi, .inr (1, [.ref pia, .int (nI kn)])), (pia, .inl (cJ, 114, .inr (.inl (pu_pics fo wi hi kef pif kn)))), (fa, .inr (2, [.ref fas, .ref fat, .ref faa, .int fan])), (fas, .inl (cI, 17, .inl faS)), (fat, .inl (cI, 17, .inl faT)), (faa, .inl (cI, 17, .inl faA))]) A) ([.ref ob] : List Value).toArray s 0 0 A) (F0 m 9 ls []) := by
    intro  n
    induction n with
    | zero =>
      intro k hk hm
      exact absurd hm (by omega)
    | succ n ih =>
      intro k hk hm H locs hP hD hS ls hl
      refine lv_iload_n hx hb d_PC_layOnPicture_9 rfl (lv_at hl 1 rfl) ?_
      refine lv_aload_n hx hb d_PC_layOnPicture_10 rfl (lv_at hl 0 rfl) ?_
      refine va_get (D := (dC, dI)) (ci := 0) (v := .ref ke) (C := R_PC) (T := F_PC) (N := 8) hx hb hts (fun w h => mw (i_PC w h)) hown hK hP 0 rfl rfl 4 (by decide) (hts _ (mw wd_85)) (fun _ h9 => h9) rfl d_PC_layOnPicture_11 ?_
      refine va_getN (D := (dC, dI)) (ci := 1) (v := .int (nI kn)) (C := R_Ri) (T := F_Ri) (N := 2) hx hb hts (fun w h => mw (i_Ri w h)) hown hK hP 3 rfl rfl 1 (by decide) (va_Nw.use rfl (hN _ nw_1)) (fun _ h9 => h9) rfl d_PC_layOnPicture_14 ?_
      refine lv_icmp_ge (tgt := 148) hx hb d_PC_layOnPicture_17 (by decide) (fun c_1 => ?_) (fun c_1 => ?_)
      · have c_1 : nI kn ≤ nI k := c_1
        rw [nI_leI (by omega) (by omega)] at c_1
        have c_1 : kn ≤ k := c_1
        have hkk : kn = k := by omega
        rw [← hkk] at hP hD
        exact W.vret hx hb hr (fun t ht hW => ⟨⟨(), rfl, trivial, by rw [ht]; exact hP, hD⟩, hS.F ht⟩) hS.2.2 d_PC_layOnPicture_148
      · have c_1 : ¬ (nI kn ≤ nI k) := c_1
        rw [nI_leI (by omega) (by omega)] at c_1
        have c_1 : ¬ (kn ≤ k) := c_1
        refine lv_aload_n hx hb d_PC_layOnPicture_20 rfl (lv_at hl 0 rfl) ?_
        refine va_get (D := (dC, dI)) (ci := 0) (v := .ref ke) (C := R_PC) (T := F_PC) (N := 8) hx hb hts (fun w h => mw (i_PC w h)) hown hK hP 0 rfl rfl 4 (by decide) (hts _ (mw wd_85)) (fun _ h9 => h9) rfl d_PC_layOnPicture_21 ?_
        refine lv_iload_n hx hb d_PC_layOnPicture_24 rfl (lv_at hl 1 rfl) ?_
        refine lv_iconst (v := 2) hx hb d_PC_layOnPicture_25 (by decide) ?_
        have hPc := hP.sub (ws' := [(ke, .inr (1, [.ref kea, .int (nI kn)])), (kea, .inl (cJ, 114, .inr (.inl kef)))]) [3, 4] rfl
        refine vp_callSl (va_Run.run (va_runVN (As := [.int (nI k), .int (nI 2)]) (rest := []) ⟨hx, hb, hml, hown, hts⟩ (k_Ri_at l dC dI cJ cI ke kea kn kef k 2 (by omega) (by omega) (by omega)) (⟨va_cnB 2 hts (gd_0 wd_136) rfl rfl rfl (hN _ nw_10) (hts _ (mw wd_35)) (by decide +kernel) ⟨Nat.le_of_ble_eq_true rfl, Nat.le_of_ble_eq_true rfl⟩, (hts _ (mw wd_135)), (hts _ (mw wd_5))⟩) ⟨fb_ro, va_recv hK hPc (ci := 1) (q0 := 0) rfl rfl, pre_ro hK hN hPc⟩ rfl rfl hl.1 rfl (lv_room (Nat.le_of_ble_eq_true rfl)) d_PC_layOnPicture_26 ⟨Nat.le_of_ble_eq_true rfl, Nat.le_of_ble_eq_true rfl⟩)) (fun r_2 er_2 => ?_)
        have er_2 : r_2 = kef (6 * k + 2) := er_2
        refine lv_lstore_n (lv' := [(2, .long r_2), (0, .ref ob), (1, .int (nI k))]) hx hb d_PC_layOnPicture_29 rfl hl (by decide) rfl (fun ls hl => ?_)
        refine lv_aload_n hx hb d_PC_layOnPicture_30 rfl (lv_at hl 1 rfl) ?_
        refine va_get (D := (dC, dI)) (ci := 0) (v := .ref pi) (C := R_PC) (T := F_PC) (N := 8) hx hb hts (fun w h => mw (i_PC w h)) hown hK hP 0 rfl rfl 6 (by decide) (hts _ (mw wd_87)) (fun _ h9 => h9) rfl d_PC_layOnPicture_31 ?_
        refine lv_aload_n hx hb d_PC_layOnPicture_34 rfl (lv_at hl 1 rfl) ?_
        refine va_get (D := (dC, dI)) (ci := 0) (v := .ref ke) (C := R_PC) (T := F_PC) (N := 8) hx hb hts (fun w h => mw (i_PC w h)) hown hK hP 0 rfl rfl 4 (by decide) (hts _ (mw wd_85)) (fun _ h9 => h9) rfl d_PC_layOnPicture_35 ?_
        refine lv_iload_n hx hb d_PC_layOnPicture_38 rfl (lv_at hl 2 rfl) ?_
        have hPc := hP.sub (ws' := [(pi, .inr (1, [.ref pia, .int (nI k)])), (pia, .inl (cJ, 114, .inr (.inl (pu_pics fo wi hi kef pif k)))), (ke, .inr (1, [.ref kea, .int (nI kn)])), (kea, .inl (cJ, 114, .inr (.inl kef)))]) [7, 8, 3, 4] rfl
        have hDc := hD.sub (ws' := [(pi, .inr (1, [.ref pia, .int (nI k)])), (pia, .inl (cJ, 114, .inr (.inl (pu_pics fo wi hi kef pif k)))), (ke, .inr (1, [.ref kea, .int (nI kn)])), (kea, .inl (cJ, 114, .inr (.inl kef)))]) [7, 8, 3, 4] (by decide) rfl
        have hFc := va_free (wc := [(pi, .inr (1, [.ref pia, .int (nI k)])), (pia, .inl (cJ, 114, .inr (.inl (pu_pics fo wi hi kef pif k)))), (ke, .inr (1, [.ref kea, .int (nI kn)])), (kea, .inl (cJ, 114, .inr (.inl kef)))]) hD hS hA [7, 8, 3, 4] rfl
        refine va_callv (va_runVN (As := [.ref ke, .int (nI k)]) (rest := []) ⟨hx, hb, hml, hown, hts⟩ (k_Ri_addCopy l dC dI cJ cI H.size pi pia k (pu_pics fo wi hi kef pif k) ke kea kn kef k (by omega) (by omega) (by omega)) (⟨va_cnB 2 hts (gd_0 wd_132) rfl rfl rfl (hN _ nw_9) (hts _ (mw wd_35)) (by decide +kernel) ⟨Nat.le_of_ble_eq_true rfl, Nat.le_of_ble_eq_true rfl⟩, (hts _ (mw wd_131)), (hts _ (mw wd_4))⟩) ⟨fb_rw, va_recv hK hPc (ci := 1) (q0 := 0) rfl rfl, pre_rw hK hN hPc hDc⟩ rfl rfl hl.1 rfl (lv_room (Nat.le_of_ble_eq_true rfl)) d_PC_layOnPicture_39 ⟨Nat.le_of_ble_eq_true rfl, Nat.le_of_ble_eq_true rfl⟩) hS (fun q _ h => hFc q h) hFc (fun u t H locs ht hvm hw hB hz1 hk1 hS => ?_)
        obtain ⟨hP1, hD1⟩ := hB
        rw [ht] at hP1
        obtain ⟨hP, hD⟩ := va_join (wr := [(ob, .inr (0, [.int wi, .int hi, .int fo, .ref gi, .ref ke, .ref sp, .ref pi, .ref fa])), (gi, .inr (1, [.ref gia, .int gin])), (gia, .inl (cJ, 114, .inr (.inl gif))), (sp, .inr (1, [.ref spa, .int spn])), (spa, .inl (cJ, 114, .inr (.inl spf))), (fa, .inr (2, [.ref fas, .ref fat, .ref faa, .int fan])), (fas, .inl (cI, 17, .inl faS)), (fat, .inl (cI, 17, .inl faT)), (faa, .inl (cI, 17, .inl faA))]) (w1 := [(pi, .inr (1, [.ref pia, .int (nI (k + 1))])), (pia, .inl (cJ, 114, .inr (.inl (pu_put (pu_pics fo wi hi kef pif k) k (fun j => kef (6 * k + j)))))), (ke, .inr (1, [.ref kea, .int (nI kn)])), (kea, .inl (cJ, 114, .inr (.inl kef)))]) hP hD [7, 8, 3, 4] [0, 1, 2, 5, 6, 9, 10, 11, 12] rfl rfl (by decide) (by decide) hk1 hFc hP1 hD1
        have hP : va_P (dC, dI) cls4 [(ob, .inr (0, [.int wi, .int hi, .int fo, .ref gi, .ref ke, .ref sp, .ref pi, .ref fa])), (gi, .inr (1, [.ref gia, .int gin])), (gia, .inl (cJ, 114, .inr (.inl gif))), (ke, .inr (1, [.ref kea, .int (nI kn)])), (kea, .inl (cJ, 114, .inr (.inl kef))), (sp, .inr (1, [.ref spa, .int spn])), (spa, .inl (cJ, 114, .inr (.inl spf))), (pi, .inr (1, [.ref pia, .int (nI (k + 1))])), (pia, .inl (cJ, 114, .inr (.inl (pu_put (pu_pics fo wi hi kef pif k) k (fun j => kef (6 * k + j)))))), (fa, .inr (2, [.ref fas, .ref fat, .ref faa, .int fan])), (fas, .inl (cI, 17, .inl faS)), (fat, .inl (cI, 17, .inl faT)), (faa, .inl (cI, 17, .inl faA))] H := hP.sub [0, 1, 2, 11, 12, 3, 4, 9, 10, 5, 6, 7, 8] rfl
        have hD : va_D A [(ob, .inr (0, [.int wi, .int hi, .int fo, .ref gi, .ref ke, .ref sp, .ref pi, .ref fa])), (gi, .inr (1, [.ref gia, .int gin])), (gia, .inl (cJ, 114, .inr (.inl gif))), (ke, .inr (1, [.ref kea, .int (nI kn)])), (kea, .inl (cJ, 114, .inr (.inl kef))), (sp, .inr (1, [.ref spa, .int spn])), (spa, .inl (cJ, 114, .inr (.inl spf))), (pi, .inr (1, [.ref pia, .int (nI (k + 1))])), (pia, .inl (cJ, 114, .inr (.inl (pu_put (pu_pics fo wi hi kef pif k) k (fun j => kef (6 * k + j)))))), (fa, .inr (2, [.ref fas, .ref fat, .ref faa, .int fan])), (fas, .inl (cI, 17, .inl faS)), (fat, .inl (cI, 17, .inl faT)), (faa, .inl (cI, 17, .inl faA))] := hD.sub [0, 1, 2, 11, 12, 3, 4, 9, 10, 5, 6, 7, 8] (by decide) rfl
        refine lv_aload_n hx hb d_PC_layOnPicture_42 rfl (lv_at hl 1 rfl) ?_
        refine va_get (D := (dC, dI)) (ci := 0) (v := .ref pi) (C := R_PC) (T := F_PC) (N := 8) hx hb hts (fun w h => mw (i_PC w h)) hown hK hP 0 rfl rfl 6 (by decide) (hts _ (mw wd_87)) (fun _ h9 => h9) rfl d_PC_layOnPicture_43 ?_
        refine lv_iload_n hx hb d_PC_layOnPicture_46 rfl (lv_at hl 2 rfl) ?_
        refine lv_iconst (v := 0) hx hb d_PC_layOnPicture_47 (by decide) ?_
        refine lv_ldc2 hx hb hown (hts _ (mw wd_157)) d_PC_layOnPicture_48 ?_
        refine lv_aload_n hx hb d_PC_layOnPicture_51 rfl (lv_at hl 1 rfl) ?_
        refine va_get (D := (dC, dI)) (ci := 0) (v := .int fo) (C := R_PC) (T := F_PC) (N := 8) hx hb hts (fun w h => mw (i_PC w h)) hown hK hP 0 rfl rfl 2 (by decide) (hts _ (mw wd_83)) (fun _ h9 => h9) rfl d_PC_layOnPicture_52 ?_
        refine lv_i2l hx hb d_PC_layOnPicture_55 rfl ?_
        refine lv_lmul hx hb d_PC_layOnPicture_56 ?_
        refine lv_aload_n hx hb d_PC_layOnPicture_57 rfl (lv_at hl 1 rfl) ?_
        refine va_get (D := (dC, dI)) (ci := 0) (v := .ref ke) (C := R_PC) (T := F_PC) (N := 8) hx hb hts (fun w h => mw (i_PC w h)) hown hK hP 0 rfl rfl 4 (by decide) (hts _ (mw wd_85)) (fun _ h9 => h9) rfl d_PC_layOnPicture_58 ?_
        refine lv_iload_n hx hb d_PC_layOnPicture_61 rfl (lv_at hl 2 rfl) ?_
        refine lv_iconst (v := 0) hx hb d_PC_layOnPicture_62 (by decide) ?_
        have hPc := hP.sub (ws' := [(ke, .inr (1, [.ref kea, .int (nI kn)])), (kea, .inl (cJ, 114, .inr (.inl kef)))]) [3, 4] rfl
        refine vp_callSl (va_Run.run (va_runVN (As := [.int (nI k), .int (nI 0)]) (rest := [.long (16 * fo.toInt64), .int 0, .int (nI k), .ref pi]) ⟨hx, hb, hml, hown, hts⟩ (k_Ri_at l dC dI cJ cI ke kea kn kef k 0 (by omega) (by omega) (by omega)) (⟨va_cnB 2 hts (gd_0 wd_136) rfl rfl rfl (hN _ nw_10) (hts _ (mw wd_35)) (by decide +kernel) ⟨Nat.le_of_ble_eq_true rfl, Nat.le_of_ble_eq_true rfl⟩, (hts _ (mw wd_135)), (hts _ (mw wd_5))⟩) ⟨fb_ro, va_recv hK hPc (ci := 1) (q0 := 0) rfl rfl, pre_ro hK hN hPc⟩ rfl rfl hl.1 rfl (lv_room (Nat.le_of_ble_eq_true rfl)) d_PC_layOnPicture_63 ⟨Nat.le_of_ble_eq_true rfl, Nat.le_of_ble_eq_true rfl⟩)) (fun r_3 er_3 => ?_)
        have er_3 : r_3 = kef (6 * k + 0) := er_3
        refine lv_lmul hx hb d_PC_layOnPicture_66 ?_
        refine lv_lload_n hx hb d_PC_layOnPicture_67 rfl (lv_at hl 0 rfl) ?_
        refine vp_callSl (va_Run.run (va_runS (As := [.long ((16 * fo.toInt64) * r_3), .long r_2]) (rest := [.int 0, .int (nI k), .ref pi]) ⟨hx, hb, hml, hown, hts⟩ (k_PC_div l dC dI cJ cI ((16 * fo.toInt64) * r_3) r_2 (by rw [er_2]; exact hz k (by omega))) (va_cwS 2 hts (gd_S wd_148 wd_149 wd_33 wd_150) rfl rfl rfl (by decide +kernel) ⟨Nat.le_of_ble_eq_true rfl, Nat.le_of_ble_eq_true rfl⟩) ⟨fb_ro, pre_ro hK hN va_nil⟩ rfl rfl hl.1 rfl (lv_room (Nat.le_of_ble_eq_true rfl)) d_PC_layOnPicture_68 ⟨Nat.le_of_ble_eq_true rfl, Nat.le_of_ble_eq_true rfl⟩)) (fun r_4 er_4 => ?_)
        have er_4 : r_4 = pu_div ((16 * fo.toInt64) * r_3) r_2 := er_4
        refine lv_ldc2 hx hb hown (hts _ (mw wd_158)) d_PC_layOnPicture_71 ?_
        refine lv_aload_n hx hb d_PC_layOnPicture_74 rfl (lv_at hl 1 rfl) ?_
        refine va_get (D := (dC, dI)) (ci := 0) (v := .int wi) (C := R_PC) (T := F_PC) (N := 8) hx hb hts (fun w h => mw (i_PC w h)) hown hK hP 0 rfl rfl 0 (by decide) (hts _ (mw wd_81)) (fun _ h9 => h9) rfl d_PC_layOnPicture_75 ?_
        refine lv_i2l hx hb d_PC_layOnPicture_78 rfl ?_
        refine lv_lmul hx hb d_PC_layOnPicture_79 ?_
        refine lv_ladd hx hb d_PC_layOnPicture_80 ?_
        have hPc := hP.sub (ws' := [(pi, .inr (1, [.ref pia, .int (nI (k + 1))])), (pia, .inl (cJ, 114, .inr (.inl (pu_put (pu_pics fo wi hi kef pif k) k (fun j => kef (6 * k + j))))))]) [7, 8] rfl
        have hDc := hD.sub (ws' := [(pi, .inr (1, [.ref pia, .int (nI (k + 1))])), (pia, .inl (cJ, 114, .inr (.inl (pu_put (pu_pics fo wi hi kef pif k) k (fun j => kef (6 * k + j))))))]) [7, 8] (by decide) rfl
        have hFc := va_free (wc := [(pi, .inr (1, [.ref pia, .int (nI (k + 1))])), (pia, .inl (cJ, 114, .inr (.inl (pu_put (pu_pics fo wi hi kef pif k) k (fun j => kef (6 * k + j))))))]) hD hS hA [7, 8] rfl
        refine va_callv (va_runVN (As := [.int (nI k), .int (nI 0), .long (r_4 + (8 * wi.toInt64))]) (rest := []) ⟨hx, hb, hml, hown, hts⟩ (k_Ri_put l dC dI cJ cI H.size pi pia (k + 1) (pu_put (pu_pics fo wi hi kef pif k) k (fun j => kef (6 * k + j))) k 0 (r_4 + (8 * wi.toInt64)) (by omega) (by omega) (by omega)) (⟨va_cnB 3 hts (gd_0 wd_113) rfl rfl rfl (hN _ nw_7) (hts _ (mw wd_35)) (by decide +kernel) ⟨Nat.le_of_ble_eq_true rfl, Nat.le_of_ble_eq_true rfl⟩, (hts _ (mw wd_112)), (hts _ (mw wd_2))⟩) ⟨fb_rw, va_recv hK hPc (ci := 1) (q0 := 0) rfl rfl, pre_rw hK hN hPc hDc⟩ rfl rfl hl.1 rfl (lv_room (Nat.le_of_ble_eq_true rfl)) d_PC_layOnPicture_81 ⟨Nat.le_of_ble_eq_true rfl, Nat.le_of_ble_eq_true rfl⟩) hS (fun q _ h => hFc q h) hFc (fun u t H locs ht hvm hw hB hz1 hk1 hS => ?_)
        obtain ⟨hP1, hD1⟩ := hB
        rw [ht] at hP1
        obtain ⟨hP, hD⟩ := va_join (wr := [(ob, .inr (0, [.int wi, .int hi, .int fo, .ref gi, .ref ke, .ref sp, .ref pi, .ref fa])), (gi, .inr (1, [.ref gia, .int gin])), (gia, .inl (cJ, 114, .inr (.inl gif))), (ke, .inr (1, [.ref kea, .int (nI kn)])), (kea, .inl (cJ, 114, .inr (.inl kef))), (sp, .inr (1, [.ref spa, .int spn])), (spa, .inl (cJ, 114, .inr (.inl spf))), (fa, .inr (2, [.ref fas, .ref fat, .ref faa, .int fan])), (fas, .inl (cI, 17, .inl faS)), (fat, .inl (cI, 17, .inl faT)), (faa, .inl (cI, 17, .inl faA))]) (w1 := [(pi, .inr (1, [.ref pia, .int (nI (k + 1))])), (pia, .inl (cJ, 114, .inr (.inl (vp_updL (pu_put (pu_pics fo wi hi kef pif k) k (fun j => kef (6 * k + j))) (6 * k + 0) (r_4 + (8 * wi.toInt64))))))]) hP hD [7, 8] [0, 1, 2, 3, 4, 5, 6, 9, 10, 11, 12] rfl rfl (by decide) (by decide) hk1 hFc hP1 hD1
        have hP : va_P (dC, dI) cls4 [(ob, .inr (0, [.int wi, .int hi, .int fo, .ref gi, .ref ke, .ref sp, .ref pi, .ref fa])), (gi, .inr (1, [.ref gia, .int gin])), (gia, .inl (cJ, 114, .inr (.inl gif))), (ke, .inr (1, [.ref kea, .int (nI kn)])), (kea, .inl (cJ, 114, .inr (.inl kef))), (sp, .inr (1, [.ref spa, .int spn])), (spa, .inl (cJ, 114, .inr (.inl spf))), (pi, .inr (1, [.ref pia, .int (nI (k + 1))])), (pia, .inl (cJ, 114, .inr (.inl (vp_updL (pu_put (pu_pics fo wi hi kef pif k) k (fun j => kef (6 * k + j))) (6 * k + 0) (r_4 + (8 * wi.toInt64)))))), (fa, .inr (2, [.ref fas, .ref fat, .ref faa, .int fan])), (fas, .inl (cI, 17, .inl faS)), (fat, .inl (cI, 17, .inl faT)), (faa, .inl (cI, 17, .inl faA))] H := hP.sub [0, 1, 2, 3, 4, 5, 6, 11, 12, 7, 8, 9, 10] rfl
        have hD : va_D A [(ob, .inr (0, [.int wi, .int hi, .int fo, .ref gi, .ref ke, .ref sp, .ref pi, .ref fa])), (gi, .inr (1, [.ref gia, .int gin])), (gia, .inl (cJ, 114, .inr (.inl gif))), (ke, .inr (1, [.ref kea, .int (nI kn)])), (kea, .inl (cJ, 114, .inr (.inl kef))), (sp, .inr (1, [.ref spa, .int spn])), (spa, .inl (cJ, 114, .inr (.inl spf))), (pi, .inr (1, [.ref pia, .int (nI (k + 1))])), (pia, .inl (cJ, 114, .inr (.inl (vp_updL (pu_put (pu_pics fo wi hi kef pif k) k (fun j => kef (6 * k + j))) (6 * k + 0) (r_4 + (8 * wi.toInt64)))))), (fa, .inr (2, [.ref fas, .ref fat, .ref faa, .int fan])), (fas, .inl (cI, 17, .inl faS)), (fat, .inl (cI, 17, .inl faT)), (faa, .inl (cI, 17, .inl faA))] := hD.sub [0, 1, 2, 3, 4, 5, 6, 11, 12, 7, 8, 9, 10] (by decide) rfl
        refine lv_aload_n hx hb d_PC_layOnPicture_84 rfl (lv_at hl 1 rfl) ?_
        refine va_get (D := (dC, dI)) (ci := 0) (v := .ref pi) (C := R_PC) (T := F_PC) (N := 8) hx hb hts (fun w h => mw (i_PC w h)) hown hK hP 0 rfl rfl 6 (by decide) (hts _ (mw wd_87)) (fun _ h9 => h9) rfl d_PC_layOnPicture_85 ?_
        refine lv_iload_n hx hb d_PC_layOnPicture_88 rfl (lv_at hl 2 rfl) ?_
        refine lv_iconst (v := 1) hx hb d_PC_layOnPicture_89 (by decide) ?_
        refine lv_ldc2 hx hb hown (hts _ (mw wd_157)) d_PC_layOnPicture_90 ?_
        refine lv_aload_n hx hb d_PC_layOnPicture_93 rfl (lv_at hl 1 rfl) ?_
        refine va_get (D := (dC, dI)) (ci := 0) (v := .int fo) (C := R_PC) (T := F_PC) (N := 8) hx hb hts (fun w h => mw (i_PC w h)) hown hK hP 0 rfl rfl 2 (by decide) (hts _ (mw wd_83)) (fun _ h9 => h9) rfl d_PC_layOnPicture_94 ?_
        refine lv_i2l hx hb d_PC_layOnPicture_97 rfl ?_
        refine lv_lmul hx hb d_PC_layOnPicture_98 ?_
        refine lv_aload_n hx hb d_PC_layOnPicture_99 rfl (lv_at hl 1 rfl) ?_
        refine va_get (D := (dC, dI)) (ci := 0) (v := .ref ke) (C := R_PC) (T := F_PC) (N := 8) hx hb hts (fun w h => mw (i_PC w h)) hown hK hP 0 rfl rfl 4 (by decide) (hts _ (mw wd_85)) (fun _ h9 => h9) rfl d_PC_layOnPicture_100 ?_
        refine lv_iload_n hx hb d_PC_layOnPicture_103 rfl (lv_at hl 2 rfl) ?_
        refine lv_iconst (v := 1) hx hb d_PC_layOnPicture_104 (by decide) ?_
        have hPc := hP.sub (ws' := [(ke, .inr (1, [.ref kea, .int (nI kn)])), (kea, .inl (cJ, 114, .inr (.inl kef)))]) [3, 4] rfl
        refine vp_callSl (va_Run.run (va_runVN (As := [.int (nI k), .int (nI 1)]) (rest := [.long (16 * fo.toInt64), .int 1, .int (nI k), .ref pi]) ⟨hx, hb, hml, hown, hts⟩ (k_Ri_at l dC dI cJ cI ke kea kn kef k 1 (by omega) (by omega) (by omega)) (⟨va_cnB 2 hts (gd_0 wd_136) rfl rfl rfl (hN _ nw_10) (hts _ (mw wd_35)) (by decide +kernel) ⟨Nat.le_of_ble_eq_true rfl, Nat.le_of_ble_eq_true rfl⟩, (hts _ (mw wd_135)), (hts _ (mw wd_5))⟩) ⟨fb_ro, va_recv hK hPc (ci := 1) (q0 := 0) rfl rfl, pre_ro hK hN hPc⟩ rfl rfl hl.1 rfl (lv_room (Nat.le_of_ble_eq_true rfl)) d_PC_layOnPicture_105 ⟨Nat.le_of_ble_eq_true rfl, Nat.le_of_ble_eq_true rfl⟩)) (fun r_5 er_5 => ?_)
        have er_5 : r_5 = kef (6 * k + 1) := er_5
        refine lv_lmul hx hb d_PC_layOnPicture_108 ?_
        refine lv_lload_n hx hb d_PC_layOnPicture_109 rfl (lv_at hl 0 rfl) ?_
        refine vp_callSl (va_Run.run (va_runS (As := [.long ((16 * fo.toInt64) * r_5), .long r_2]) (rest := [.int 1, .int (nI k), .ref pi]) ⟨hx, hb, hml, hown, hts⟩ (k_PC_div l dC dI cJ cI ((16 * fo.toInt64) * r_5) r_2 (by rw [er_2]; exact hz k (by omega))) (va_cwS 2 hts (gd_S wd_148 wd_149 wd_33 wd_150) rfl rfl rfl (by decide +kernel) ⟨Nat.le_of_ble_eq_true rfl, Nat.le_of_ble_eq_true rfl⟩) ⟨fb_ro, pre_ro hK hN va_nil⟩ rfl rfl hl.1 rfl (lv_room (Nat.le_of_ble_eq_true rfl)) d_PC_layOnPicture_110 ⟨Nat.le_of_ble_eq_true rfl, Nat.le_of_ble_eq_true rfl⟩)) (fun r_6 er_6 => ?_)
        have er_6 : r_6 = pu_div ((16 * fo.toInt64) * r_5) r_2 := er_6
        refine lv_ldc2 hx hb hown (hts _ (mw wd_158)) d_PC_layOnPicture_113 ?_
        refine lv_aload_n hx hb d_PC_layOnPicture_116 rfl (lv_at hl 1 rfl) ?_
        refine va_get (D := (dC, dI)) (ci := 0) (v := .int hi) (C := R_PC) (T := F_PC) (N := 8) hx hb hts (fun w h => mw (i_PC w h)) hown hK hP 0 rfl rfl 1 (by decide) (hts _ (mw wd_82)) (fun _ h9 => h9) rfl d_PC_layOnPicture_117 ?_
        refine lv_i2l hx hb d_PC_layOnPicture_120 rfl ?_
        refine lv_lmul hx hb d_PC_layOnPicture_121 ?_
        refine lv_ladd hx hb d_PC_layOnPicture_122 ?_
        have hPc := hP.sub (ws' := [(pi, .inr (1, [.ref pia, .int (nI (k + 1))])), (pia, .inl (cJ, 114, .inr (.inl (vp_updL (pu_put (pu_pics fo wi hi kef pif k) k (fun j => kef (6 * k + j))) (6 * k + 0) (r_4 + (8 * wi.toInt64))))))]) [7, 8] rfl
        have hDc := hD.sub (ws' := [(pi, .inr (1, [.ref pia, .int (nI (k + 1))])), (pia, .inl (cJ, 114, .inr (.inl (vp_updL (pu_put (pu_pics fo wi hi kef pif k) k (fun j => kef (6 * k + j))) (6 * k + 0) (r_4 + (8 * wi.toInt64))))))]) [7, 8] (by decide) rfl
        have hFc := va_free (wc := [(pi, .inr (1, [.ref pia, .int (nI (k + 1))])), (pia, .inl (cJ, 114, .inr (.inl (vp_updL (pu_put (pu_pics fo wi hi kef pif k) k (fun j => kef (6 * k + j))) (6 * k + 0) (r_4 + (8 * wi.toInt64))))))]) hD hS hA [7, 8] rfl
        refine va_callv (va_runVN (As := [.int (nI k), .int (nI 1), .long (r_6 + (8 * hi.toInt64))]) (rest := []) ⟨hx, hb, hml, hown, hts⟩ (k_Ri_put l dC dI cJ cI H.size pi pia (k + 1) (vp_updL (pu_put (pu_pics fo wi hi kef pif k) k (fun j => kef (6 * k + j))) (6 * k + 0) (r_4 + (8 * wi.toInt64))) k 1 (r_6 + (8 * hi.toInt64)) (by omega) (by omega) (by omega)) (⟨va_cnB 3 hts (gd_0 wd_113) rfl rfl rfl (hN _ nw_7) (hts _ (mw wd_35)) (by decide +kernel) ⟨Nat.le_of_ble_eq_true rfl, Nat.le_of_ble_eq_true rfl⟩, (hts _ (mw wd_112)), (hts _ (mw wd_2))⟩) ⟨fb_rw, va_recv hK hPc (ci := 1) (q0 := 0) rfl rfl, pre_rw hK hN hPc hDc⟩ rfl rfl hl.1 rfl (lv_room (Nat.le_of_ble_eq_true rfl)) d_PC_layOnPicture_123 ⟨Nat.le_of_ble_eq_true rfl, Nat.le_of_ble_eq_true rfl⟩) hS (fun q _ h => hFc q h) hFc (fun u t H locs ht hvm hw hB hz1 hk1 hS => ?_)
        obtain ⟨hP1, hD1⟩ := hB
        rw [ht] at hP1
        obtain ⟨hP, hD⟩ := va_join (wr := [(ob, .inr (0, [.int wi, .int hi, .int fo, .ref gi, .ref ke, .ref sp, .ref pi, .ref fa])), (gi, .inr (1, [.ref gia, .int gin])), (gia, .inl (cJ, 114, .inr (.inl gif))), (ke, .inr (1, [.ref kea, .int (nI kn)])), (kea, .inl (cJ, 114, .inr (.inl kef))), (sp, .inr (1, [.ref spa, .int spn])), (spa, .inl (cJ, 114, .inr (.inl spf))), (fa, .inr (2, [.ref fas, .ref fat, .ref faa, .int fan])), (fas, .inl (cI, 17, .inl faS)), (fat, .inl (cI, 17, .inl faT)), (faa, .inl (cI, 17, .inl faA))]) (w1 := [(pi, .inr (1, [.ref pia, .int (nI (k + 1))])), (pia, .inl (cJ, 114, .inr (.inl (vp_updL (vp_updL (pu_put (pu_pics fo wi hi kef pif k) k (fun j => kef (6 * k + j))) (6 * k + 0) (r_4 + (8 * wi.toInt64))) (6 * k + 1) (r_6 + (8 * hi.toInt64))))))]) hP hD [7, 8] [0, 1, 2, 3, 4, 5, 6, 9, 10, 11, 12] rfl rfl (by decide) (by decide) hk1 hFc hP1 hD1
        have hP : va_P (dC, dI) cls4 [(ob, .inr (0, [.int wi, .int hi, .int fo, .ref gi, .ref ke, .ref sp, .ref pi, .ref fa])), (gi, .inr (1, [.ref gia, .int gin])), (gia, .inl (cJ, 114, .inr (.inl gif))), (ke, .inr (1, [.ref kea, .int (nI kn)])), (kea, .inl (cJ, 114, .inr (.inl kef))), (sp, .inr (1, [.ref spa, .int spn])), (spa, .inl (cJ, 114, .inr (.inl spf))), (pi, .inr (1, [.ref pia, .int (nI (k + 1))])), (pia, .inl (cJ, 114, .inr (.inl (vp_updL (vp_updL (pu_put (pu_pics fo wi hi kef pif k) k (fun j => kef (6 * k + j))) (6 * k + 0) (r_4 + (8 * wi.toInt64))) (6 * k + 1) (r_6 + (8 * hi.toInt64)))))), (fa, .inr (2, [.ref fas, .ref fat, .ref faa, .int fan])), (fas, .inl (cI, 17, .inl faS)), (fat, .inl (cI, 17, .inl faT)), (faa, .inl (cI, 17, .inl faA))] H := hP.sub [0, 1, 2, 3, 4, 5, 6, 11, 12, 7, 8, 9, 10] rfl
        have hD : va_D A [(ob, .inr (0, [.int wi, .int hi, .int fo, .ref gi, .ref ke, .ref sp, .ref pi, .ref fa])), (gi, .inr (1, [.ref gia, .int gin])), (gia, .inl (cJ, 114, .inr (.inl gif))), (ke, .inr (1, [.ref kea, .int (nI kn)])), (kea, .inl (cJ, 114, .inr (.inl kef))), (sp, .inr (1, [.ref spa, .int spn])), (spa, .inl (cJ, 114, .inr (.inl spf))), (pi, .inr (1, [.ref pia, .int (nI (k + 1))])), (pia, .inl (cJ, 114, .inr (.inl (vp_updL (vp_updL (pu_put (pu_pics fo wi hi kef pif k) k (fun j => kef (6 * k + j))) (6 * k + 0) (r_4 + (8 * wi.toInt64))) (6 * k + 1) (r_6 + (8 * hi.toInt64)))))), (fa, .inr (2, [.ref fas, .ref fat, .ref faa, .int fan])), (fas, .inl (cI, 17, .inl faS)), (fat, .inl (cI, 17, .inl faT)), (faa, .inl (cI, 17, .inl faA))] := hD.sub [0, 1, 2, 3, 4, 5, 6, 11, 12, 7, 8, 9, 10] (by decide) rfl
        refine lv_aload_n hx hb d_PC_layOnPicture_126 rfl (lv_at hl 1 rfl) ?_
        refine va_get (D := (dC, dI)) (ci := 0) (v := .ref pi) (C := R_PC) (T := F_PC) (N := 8) hx hb hts (fun w h => mw (i_PC w h)) hown hK hP 0 rfl rfl 6 (by decide) (hts _ (mw wd_87)) (fun _ h9 => h9) rfl d_PC_layOnPicture_127 ?_
        refine lv_iload_n hx hb d_PC_layOnPicture_130 rfl (lv_at hl 2 rfl) ?_
        refine lv_iconst (v := 2) hx hb d_PC_layOnPicture_131 (by decide) ?_
        refine lv_ldc2 hx hb hown (hts _ (mw wd_159)) d_PC_layOnPicture_132 ?_
        refine lv_lload_n hx hb d_PC_layOnPicture_135 rfl (lv_at hl 0 rfl) ?_
        refine vp_callSl (va_Run.run (va_runS (As := [.long 4294967296, .long r_2]) (rest := [.int 2, .int (nI k), .ref pi]) ⟨hx, hb, hml, hown, hts⟩ (k_PC_div l dC dI cJ cI 4294967296 r_2 (by rw [er_2]; exact hz k (by omega))) (va_cwS 2 hts (gd_S wd_148 wd_149 wd_33 wd_150) rfl rfl rfl (by decide +kernel) ⟨Nat.le_of_ble_eq_true rfl, Nat.le_of_ble_eq_true rfl⟩) ⟨fb_ro, pre_ro hK hN va_nil⟩ rfl rfl hl.1 rfl (lv_room (Nat.le_of_ble_eq_true rfl)) d_PC_layOnPicture_136 ⟨Nat.le_of_ble_eq_true rfl, Nat.le_of_ble_eq_true rfl⟩)) (fun r_7 er_7 => ?_)
        have er_7 : r_7 = pu_div 4294967296 r_2 := er_7
        have hPc := hP.sub (ws' := [(pi, .inr (1, [.ref pia, .int (nI (k + 1))])), (pia, .inl (cJ, 114, .inr (.inl (vp_updL (vp_updL (pu_put (pu_pics fo wi hi kef pif k) k (fun j => kef (6 * k + j))) (6 * k + 0) (r_4 + (8 * wi.toInt64))) (6 * k + 1) (r_6 + (8 * hi.toInt64))))))]) [7, 8] rfl
        have hDc := hD.sub (ws' := [(pi, .inr (1, [.ref pia, .int (nI (k + 1))])), (pia, .inl (cJ, 114, .inr (.inl (vp_updL (vp_updL (pu_put (pu_pics fo wi hi kef pif k) k (fun j => kef (6 * k + j))) (6 * k + 0) (r_4 + (8 * wi.toInt64))) (6 * k + 1) (r_6 + (8 * hi.toInt64))))))]) [7, 8] (by decide) rfl
        have hFc := va_free (wc := [(pi, .inr (1, [.ref pia, .int (nI (k + 1))])), (pia, .inl (cJ, 114, .inr (.inl (vp_updL (vp_updL (pu_put (pu_pics fo wi hi kef pif k) k (fun j => kef (6 * k + j))) (6 * k + 0) (r_4 + (8 * wi.toInt64))) (6 * k + 1) (r_6 + (8 * hi.toInt64))))))]) hD hS hA [7, 8] rfl
        refine va_callv (va_runVN (As := [.int (nI k), .int (nI 2), .long r_7]) (rest := []) ⟨hx, hb, hml, hown, hts⟩ (k_Ri_put l dC dI cJ cI H.size pi pia (k + 1) (vp_updL (vp_updL (pu_put (pu_pics fo wi hi kef pif k) k (fun j => kef (6 * k + j))) (6 * k + 0) (r_4 + (8 * wi.toInt64))) (6 * k + 1) (r_6 + (8 * hi.toInt64))) k 2 r_7 (by omega) (by omega) (by omega)) (⟨va_cnB 3 hts (gd_0 wd_113) rfl rfl rfl (hN _ nw_7) (hts _ (mw wd_35)) (by decide +kernel) ⟨Nat.le_of_ble_eq_true rfl, Nat.le_of_ble_eq_true rfl⟩, (hts _ (mw wd_112)), (hts _ (mw wd_2))⟩) ⟨fb_rw, va_recv hK hPc (ci := 1) (q0 := 0) rfl rfl, pre_rw hK hN hPc hDc⟩ rfl rfl hl.1 rfl (lv_room (Nat.le_of_ble_eq_true rfl)) d_PC_layOnPicture_139 ⟨Nat.le_of_ble_eq_true rfl, Nat.le_of_ble_eq_true rfl⟩) hS (fun q _ h => hFc q h) hFc (fun u t H locs ht hvm hw hB hz1 hk1 hS => ?_)
        obtain ⟨hP1, hD1⟩ := hB
        rw [ht] at hP1
        obtain ⟨hP, hD⟩ := va_join (wr := [(ob, .inr (0, [.int wi, .int hi, .int fo, .ref gi, .ref ke, .ref sp, .ref pi, .ref fa])), (gi, .inr (1, [.ref gia, .int gin])), (gia, .inl (cJ, 114, .inr (.inl gif))), (ke, .inr (1, [.ref kea, .int (nI kn)])), (kea, .inl (cJ, 114, .inr (.inl kef))), (sp, .inr (1, [.ref spa, .int spn])), (spa, .inl (cJ, 114, .inr (.inl spf))), (fa, .inr (2, [.ref fas, .ref fat, .ref faa, .int fan])), (fas, .inl (cI, 17, .inl faS)), (fat, .inl (cI, 17, .inl faT)), (faa, .inl (cI, 17, .inl faA))]) (w1 := [(pi, .inr (1, [.ref pia, .int (nI (k + 1))])), (pia, .inl (cJ, 114, .inr (.inl (vp_updL (vp_updL (vp_updL (pu_put (pu_pics fo wi hi kef pif k) k (fun j => kef (6 * k + j))) (6 * k + 0) (r_4 + (8 * wi.toInt64))) (6 * k + 1) (r_6 + (8 * hi.toInt64))) (6 * k + 2) r_7))))]) hP hD [7, 8] [0, 1, 2, 3, 4, 5, 6, 9, 10, 11, 12] rfl rfl (by decide) (by decide) hk1 hFc hP1 hD1
        have hP : va_P (dC, dI) cls4 [(ob, .inr (0, [.int wi, .int hi, .int fo, .ref gi, .ref ke, .ref sp, .ref pi, .ref fa])), (gi, .inr (1, [.ref gia, .int gin])), (gia, .inl (cJ, 114, .inr (.inl gif))), (ke, .inr (1, [.ref kea, .int (nI kn)])), (kea, .inl (cJ, 114, .inr (.inl kef))), (sp, .inr (1, [.ref spa, .int spn])), (spa, .inl (cJ, 114, .inr (.inl spf))), (pi, .inr (1, [.ref pia, .int (nI (k + 1))])), (pia, .inl (cJ, 114, .inr (.inl (vp_updL (vp_updL (vp_updL (pu_put (pu_pics fo wi hi kef pif k) k (fun j => kef (6 * k + j))) (6 * k + 0) (r_4 + (8 * wi.toInt64))) (6 * k + 1) (r_6 + (8 * hi.toInt64))) (6 * k + 2) r_7)))), (fa, .inr (2, [.ref fas, .ref fat, .ref faa, .int fan])), (fas, .inl (cI, 17, .inl faS)), (fat, .inl (cI, 17, .inl faT)), (faa, .inl (cI, 17, .inl faA))] H := hP.sub [0, 1, 2, 3, 4, 5, 6, 11, 12, 7, 8, 9, 10] rfl
        have hD : va_D A [(ob, .inr (0, [.int wi, .int hi, .int fo, .ref gi, .ref ke, .ref sp, .ref pi, .ref fa])), (gi, .inr (1, [.ref gia, .int gin])), (gia, .inl (cJ, 114, .inr (.inl gif))), (ke, .inr (1, [.ref kea, .int (nI kn)])), (kea, .inl (cJ, 114, .inr (.inl kef))), (sp, .inr (1, [.ref spa, .int spn])), (spa, .inl (cJ, 114, .inr (.inl spf))), (pi, .inr (1, [.ref pia, .int (nI (k + 1))])), (pia, .inl (cJ, 114, .inr (.inl (vp_updL (vp_updL (vp_updL (pu_put (pu_pics fo wi hi kef pif k) k (fun j => kef (6 * k + j))) (6 * k + 0) (r_4 + (8 * wi.toInt64))) (6 * k + 1) (r_6 + (8 * hi.toInt64))) (6 * k + 2) r_7)))), (fa, .inr (2, [.ref fas, .ref fat, .ref faa, .int fan])), (fas, .inl (cI, 17, .inl faS)), (fat, .inl (cI, 17, .inl faT)), (faa, .inl (cI, 17, .inl faA))] := hD.sub [0, 1, 2, 3, 4, 5, 6, 11, 12, 7, 8, 9, 10] (by decide) rfl
        refine lv_iinc (v := (nI (k + 1))) (lv' := [(1, .int (nI (k + 1))), (2, .long r_2), (0, .ref ob)]) hx hb d_PC_layOnPicture_142 hl (k := 2) rfl (nI_1 k) (by decide) rfl (fun ls hl => ?_)
        refine lv_goto (tgt := 9) hx hb d_PC_layOnPicture_145 (by decide) ?_
        subst er_2
        subst er_3
        subst er_4
        subst er_5
        subst er_6
        subst er_7
        have hst : vp_updL (vp_updL (vp_updL (pu_put (pu_pics fo wi hi kef pif k) k (fun j => kef (6 * k + j))) (6 * k + 0) ((pu_div ((16 * fo.toInt64) * (kef (6 * k + 0))) (kef (6 * k + 2))) + (8 * wi.toInt64))) (6 * k + 1) ((pu_div ((16 * fo.toInt64) * (kef (6 * k + 1))) (kef (6 * k + 2))) + (8 * hi.toInt64))) (6 * k + 2) (pu_div 4294967296 (kef (6 * k + 2))) = pu_pics fo wi hi kef pif (k + 1) := pu_lay_put rfl rfl rfl rfl rfl rfl
        rw [hst] at hP hD
        exact ih (k + 1) (by omega) (by omega) _ _ hP hD hS ls (lv_sub hl [2, 0] rfl)
  refine lv_aload_n hx hb d_PC_layOnPicture_0 rfl (lv_at hl 0 rfl) ?_
  refine va_get (D := (dC, dI)) (ci := 0) (v := .ref pi) (C := R_PC) (T := F_PC) (N := 8) hx hb hts (fun w h => mw (i_PC w h)) hown hK hP 0 rfl rfl 6 (by decide) (hts _ (mw wd_87)) (fun _ h9 => h9) rfl d_PC_layOnPicture_1 ?_
  have hPc := hP.sub (ws' := [(pi, .inr (1, [.ref pia, .int pin])), (pia, .inl (cJ, 114, .inr (.inl pif)))]) [7, 8] rfl
  have hDc := hD.sub (ws' := [(pi, .inr (1, [.ref pia, .int pin])), (pia, .inl (cJ, 114, .inr (.inl pif)))]) [7, 8] (by decide) rfl
  have hFc := va_free (wc := [(pi, .inr (1, [.ref pia, .int pin])), (pia, .inl (cJ, 114, .inr (.inl pif)))]) hD hS hA [7, 8] rfl
  refine va_callv (va_runVN (As := []) (rest := []) ⟨hx, hb, hml, hown, hts⟩ (c_Ri_clear l dC dI cJ cI s.heap.size pi pia pin pif) (⟨va_cnB 0 hts (gd_0 wd_130) rfl rfl rfl (hN _ nw_8) (hts _ (mw wd_35)) (by decide +kernel) ⟨Nat.le_of_ble_eq_true rfl, Nat.le_of_ble_eq_true rfl⟩, (hts _ (mw wd_129)), (hts _ (mw wd_3))⟩) ⟨fb_rw, va_recv hK hPc (ci := 1) (q0 := 0) rfl rfl, pre_rw hK hN hPc hDc⟩ rfl rfl hl.1 rfl (lv_room (Nat.le_of_ble_eq_true rfl)) d_PC_layOnPicture_4 ⟨Nat.le_of_ble_eq_true rfl, Nat.le_of_ble_eq_true rfl⟩) hS (fun q _ h => hFc q h) hFc (fun u t H locs ht hvm hw hB hz1 hk1 hS => ?_)
  obtain ⟨hP1, hD1⟩ := hB
  rw [ht] at hP1
  obtain ⟨hP, hD⟩ := va_join (wr := [(ob, .inr (0, [.int wi, .int hi, .int fo, .ref gi, .ref ke, .ref sp, .ref pi, .ref fa])), (gi, .inr (1, [.ref gia, .int gin])), (gia, .inl (cJ, 114, .inr (.inl gif))), (ke, .inr (1, [.ref kea, .int (nI kn)])), (kea, .inl (cJ, 114, .inr (.inl kef))), (sp, .inr (1, [.ref spa, .int spn])), (spa, .inl (cJ, 114, .inr (.inl spf))), (fa, .inr (2, [.ref fas, .ref fat, .ref faa, .int fan])), (fas, .inl (cI, 17, .inl faS)), (fat, .inl (cI, 17, .inl faT)), (faa, .inl (cI, 17, .inl faA))]) (w1 := [(pi, .inr (1, [.ref pia, .int 0])), (pia, .inl (cJ, 114, .inr (.inl pif)))]) hP hD [7, 8] [0, 1, 2, 3, 4, 5, 6, 9, 10, 11, 12] rfl rfl (by decide) (by decide) hk1 hFc hP1 hD1
  have hP : va_P (dC, dI) cls4 [(ob, .inr (0, [.int wi, .int hi, .int fo, .ref gi, .ref ke, .ref sp, .ref pi, .ref fa])), (gi, .inr (1, [.ref gia, .int gin])), (gia, .inl (cJ, 114, .inr (.inl gif))), (ke, .inr (1, [.ref kea, .int (nI kn)])), (kea, .inl (cJ, 114, .inr (.inl kef))), (sp, .inr (1, [.ref spa, .int spn])), (spa, .inl (cJ, 114, .inr (.inl spf))), (pi, .inr (1, [.ref pia, .int 0])), (pia, .inl (cJ, 114, .inr (.inl pif))), (fa, .inr (2, [.ref fas, .ref fat, .ref faa, .int fan])), (fas, .inl (cI, 17, .inl faS)), (fat, .inl (cI, 17, .inl faT)), (faa, .inl (cI, 17, .inl faA))] H := hP.sub [0, 1, 2, 3, 4, 5, 6, 11, 12, 7, 8, 9, 10] rfl
  have hD : va_D A [(ob, .inr (0, [.int wi, .int hi, .int fo, .ref gi, .ref ke, .ref sp, .ref pi, .ref fa])), (gi, .inr (1, [.ref gia, .int gin])), (gia, .inl (cJ, 114, .inr (.inl gif))), (ke, .inr (1, [.ref kea, .int (nI kn)])), (kea, .inl (cJ, 114, .inr (.inl kef))), (sp, .inr (1, [.ref spa, .int spn])), (spa, .inl (cJ, 114, .inr (.inl spf))), (pi, .inr (1, [.ref pia, .int 0])), (pia, .inl (cJ, 114, .inr (.inl pif))), (fa, .inr (2, [.ref fas, .ref fat, .ref faa, .int fan])), (fas, .inl (cI, 17, .inl faS)), (fat, .inl (cI, 17, .inl faT)), (faa, .inl (cI, 17, .inl faA))] := hD.sub [0, 1, 2, 3, 4, 5, 6, 11, 12, 7, 8, 9, 10] (by decide) rfl
  refine lv_iconst (v := 0) hx hb d_PC_layOnPicture_7 (by decide) ?_
  refine lv_istore_n (lv' := [(1, .int 0), (0, .ref ob)]) hx hb d_PC_layOnPicture_8 rfl hl (by decide) rfl (fun ls hl => ?_)
  exact LOOP (kn + 1) 0 (by omega) (by omega) _ _ hP hD hS ls (lv_sub hl [1, 0] rfl)
set_option maxHeartbeats 4000000 in
set_option maxRecDepth 100000 in
theorem c_PC_divide (l : Launch) (dC : Nat → ClassId) (dI : Nat → Nat → Nat) (cJ cI : ClassId) (sz : Nat) (ob : Nat) (wi : Int32) (hi : Int32) (fo : Int32) (gi : Nat) (gia : Nat) (gin : Int32) (gif : Nat → Int64) (ke : Nat) (kea : Nat) (ken : Int32) (kef : Nat → Int64) (sp : Nat) (spa : Nat) (spn : Int32) (spf : Nat → Int64) (pi : Nat) (pia : Nat) (pm : Nat) (pif : Nat → Int64) (fa : Nat) (fas : Nat) (fat : Nat) (faa : Nat) (fan : Int32) (faS : Nat → Int32) (faT : Nat → Int32) (faA : Nat → Int32) (bo : Int32) (hpm : pm ≤ 19) : Met l y_PC_divide w_PC_divide ({ frames := 3, cells := 0, slots := 0, locals := 69 } : Room) (rq_rw (dC, dI) cJ cI sz [.ref ob, .int bo] [(ob, .inr (0, [.int wi, .int hi, .int fo, .ref gi, .ref ke, .ref sp, .ref pi, .ref fa])), (gi, .inr (1, [.ref gia, .int gin])), (gia, .inl (cJ, 114, .inr (.inl gif))), (ke, .inr (1, [.ref kea, .int ken])), (kea, .inl (cJ, 114, .inr (.inl kef))), (sp, .inr (1, [.ref spa, .int spn])), (spa, .inl (cJ, 114, .inr (.inl spf))), (pi, .inr (1, [.ref pia, .int (nI pm)])), (pia, .inl (cJ, 114, .inr (.inl pif))), (fa, .inr (2, [.ref fas, .ref fat, .ref faa, .int fan])), (fas, .inl (cI, 17, .inl faS)), (fat, .inl (cI, 17, .inl faT)), (faa, .inl (cI, 17, .inl faA))]) (va_Qv (fun _ : Unit => True) (rz (dC, dI) (va_A [(ob, .inr (0, [.int wi, .int hi, .int fo, .ref gi, .ref ke, .ref sp, .ref pi, .ref fa])), (gi, .inr (1, [.ref gia, .int gin])), (gia, .inl (cJ, 114, .inr (.inl gif))), (ke, .inr (1, [.ref kea, .int ken])), (kea, .inl (cJ, 114, .inr (.inl kef))), (sp, .inr (1, [.ref spa, .int spn])), (spa, .inl (cJ, 114, .inr (.inl spf))), (pi, .inr (1, [.ref pia, .int (nI pm)])), (pia, .inl (cJ, 114, .inr (.inl pif))), (fa, .inr (2, [.ref fas, .ref fat, .ref faa, .int fan])), (fas, .inl (cI, 17, .inl faS)), (fat, .inl (cI, 17, .inl faT)), (faa, .inl (cI, 17, .inl faA))] sz) [(ob, .inr (0, [.int wi, .int hi, .int fo, .ref gi, .ref ke, .ref sp, .ref pi, .ref fa])), (gi, .inr (1, [.ref gia, .int gin])), (gia, .inl (cJ, 114, .inr (.inl gif))), (ke, .inr (1, [.ref kea, .int ken])), (kea, .inl (cJ, 114, .inr (.inl kef))), (sp, .inr (1, [.ref spa, .int spn])), (spa, .inl (cJ, 114, .inr (.inl spf))), (pi, .inr (1, [.ref pia, .int (nI pm)])), (pia, .inl (cJ, 114, .inr (.inl pif))), (fa, .inr (2, [.ref fas, .ref fat, .ref faa, .int (nI (pu_fan bo pif faS faT faA (pm - 2)).1)])), (fas, .inl (cI, 17, .inl ((pu_fan bo pif faS faT faA (pm - 2)).2.1))), (fat, .inl (cI, 17, .inl ((pu_fan bo pif faS faT faA (pm - 2)).2.2.1))), (faa, .inl (cI, 17, .inl ((pu_fan bo pif faS faT faA (pm - 2)).2.2.2)))]) (va_A [(ob, .inr (0, [.int wi, .int hi, .int fo, .ref gi, .ref ke, .ref sp, .ref pi, .ref fa])), (gi, .inr (1, [.ref gia, .int gin])), (gia, .inl (cJ, 114, .inr (.inl gif))), (ke, .inr (1, [.ref kea, .int ken])), (kea, .inl (cJ, 114, .inr (.inl kef))), (sp, .inr (1, [.ref spa, .int spn])), (spa, .inl (cJ, 114, .inr (.inl spf))), (pi, .inr (1, [.ref pia, .int (nI pm)])), (pia, .inl (cJ, 114, .inr (.inl pif))), (fa, .inr (2, [.ref fas, .ref fat, .ref faa, .int fan])), (fas, .inl (cI, 17, .inl faS)), (fat, .inl (cI, 17, .inl faT)), (faa, .inl (cI, 17, .inl faA))] sz)) 0 0 (va_A [(ob, .inr (0, [.int wi, .int hi, .int fo, .ref gi, .ref ke, .ref sp, .ref pi, .ref fa])), (gi, .inr (1, [.ref gia, .int gin])), (gia, .inl (cJ, 114, .inr (.inl gif))), (ke, .inr (1, [.ref kea, .int ken])), (kea, .inl (cJ, 114, .inr (.inl kef))), (sp, .inr (1, [.ref spa, .int spn])), (spa, .inl (cJ, 114, .inr (.inl spf))), (pi, .inr (1, [.ref pia, .int (nI pm)])), (pia, .inl (cJ, 114, .inr (.inl pif))), (fa, .inr (2, [.ref fas, .ref fat, .ref faa, .int fan])), (fas, .inl (cI, 17, .inl faS)), (fat, .inl (cI, 17, .inl faT)), (faa, .inl (cI, 17, .inl faA))] sz) := by
  refine Met.ofW (cc := b_PC_divide) (maxL := 5) (ret := none) (by decide) rfl ?_
  intro p e s m args below meth c s₁ B hml hv
  obtain ⟨rfl, hsz, hP, hK, hN, hD0⟩ := hv
  have hx := B.exec
  have hb := B.bytes
  have hr := B.returns
  have hts := atoms_spec (ws := w_PC_divide) B.pre
  have hown : s.vm.findClass R_PC = some m.cls := findClass_of_methodNamed B.named
  have hlocks := B.notSynchronized
  subst hsz
  have hD := hD0.self (sz := s.heap.size)
  generalize hAe : va_A [(ob, .inr (0, [.int wi, .int hi, .int fo, .ref gi, .ref ke, .ref sp, .ref pi, .ref fa])), (gi, .inr (1, [.ref gia, .int gin])), (gia, .inl (cJ, 114, .inr (.inl gif))), (ke, .inr (1, [.ref kea, .int ken])), (kea, .inl (cJ, 114, .inr (.inl kef))), (sp, .inr (1, [.ref spa, .int spn])), (spa, .inl (cJ, 114, .inr (.inl spf))), (pi, .inr (1, [.ref pia, .int (nI pm)])), (pia, .inl (cJ, 114, .inr (.inl pif))), (fa, .inr (2, [.ref fas, .ref fat, .ref faa, .int fan])), (fas, .inl (cI, 17, .inl faS)), (fat, .inl (cI, 17, .inl faT)), (faa, .inl (cI, 17, .inl faA))] s.heap.size = A at hD ⊢
  have hA : ∀ q : Nat, s.heap.size ≤ q → A q := fun q h => by rw [← hAe]; exact Or.inr h
  have hS : va_S A s.heap s.heap [] := va_S.rf
  have hl := lv_entry ([.ref ob, .int bo]) (n := 5) (Nat.le_of_ble_eq_true rfl)
  rw [lg_entry_eq]
  generalize (lg_sl ([.ref ob, .int bo]) ++ List.replicate (5 - (lg_sl ([.ref ob, .int bo])).length) Slot.unset).toArray = ls at hl ⊢
  have hl : lv_has ls 5 [(0, .ref ob), (1, .int bo)] := hl
  have hP : va_P (dC, dI) cls4 [(ob, .inr (0, [.int wi, .int hi, .int fo, .ref gi, .ref ke, .ref sp, .ref pi, .ref fa])), (gi, .inr (1, [.ref gia, .int gin])), (gia, .inl (cJ, 114, .inr (.inl gif))), (ke, .inr (1, [.ref kea, .int ken])), (kea, .inl (cJ, 114, .inr (.inl kef))), (sp, .inr (1, [.ref spa, .int spn])), (spa, .inl (cJ, 114, .inr (.inl spf))), (pi, .inr (1, [.ref pia, .int (nI pm)])), (pia, .inl (cJ, 114, .inr (.inl pif))), (fa, .inr (2, [.ref fas, .ref fat, .ref faa, .int fan])), (fas, .inl (cI, 17, .inl faS)), (fat, .inl (cI, 17, .inl faT)), (faa, .inl (cI, 17, .inl faA))] s.heap := hP
  have LOOP : ∀ (n : Nat) (j : Nat), (j + 2 ≤ pm ∨ j = 0) → (pm + 1 ≤ j + n) → ∀ (H : Heap) (locs : List Loc), va_P (dC, dI) cls4 [(ob, .inr (0, [.int wi, .int hi, .int fo, .ref gi, .ref ke, .ref sp, .ref pi, .ref fa])), (gi, .inr (1, [.ref gia, .int gin])), (gia, .inl (cJ, 114, .inr (.inl gif))), (ke, .inr (1, [.ref kea, .int ken])), (kea, .inl (cJ, 114, .inr (.inl kef))), (sp, .inr (1, [.ref spa, .int spn])), (spa, .inl (cJ, 114, .inr (.inl spf))), (pi, .inr (1, [.ref pia, .int (nI pm)])), (pia, .inl (cJ, 114, .inr (.inl pif))), (fa, .inr (2, [.ref fas, .ref fat, .ref faa, .int (nI (pu_fan bo pif faS faT faA j).1)])), (fas, .inl (cI, 17, .inl ((pu_fan bo pif faS faT faA j).2.1))), (fat, .inl (cI, 17, .inl ((pu_fan bo pif faS faT faA j).2.2.1))), (faa, .inl (cI, 17, .inl ((pu_fan bo pif faS faT faA j).2.2.2)))] H → va_D A [(ob, .inr (0, [.int wi, .int hi, .int fo, .ref gi, .ref ke, .ref sp, .ref pi, .ref fa])), (gi, .inr (1, [.ref gia, .int gin])), (gia, .inl (cJ, 114, .inr (.inl gif))), (ke, .inr (1, [.ref kea, .int ken])), (kea, .inl (cJ, 114, .inr (.inl kef))), (sp, .inr (1, [.ref spa, .int spn])), (spa, .inl (cJ, 114, .inr (.inl spf))), (pi, .inr (1, [.ref pia, .int (nI pm)])), (pia, .inl (cJ, 114, .inr (.inl pif))), (fa, .inr (2, [.ref fas, .ref fat, .ref faa, .int (nI (pu_fan bo pif faS faT faA j).1)])), (fas, .inl (cI, 17, .inl ((pu_fan bo pif faS faT faA j).2.1))), (fat, .inl (cI, 17, .inl ((pu_fan bo pif faS faT faA j).2.2.1))), (faa, .inl (cI, 17, .inl ((pu_fan bo pif faS faT faA j).2.2.2)))] → va_S A s.heap H locs → ∀ (ls : Array Slot), lv_has ls 5 [(0, .ref ob), (1, .int bo), (2, .int (nI (j + 1)))] → W p l e (headSpec w_PC_divide ({ frames := 3, cells := 0, slots := 0, locals := 69 } : Room)).room s m ([.ref ob, .int bo] : List Value).toArray below meth c H locs 0 0 (MQ below (va_Qv (fun _ : Unit => True) (rz (dC, dI) A [(ob, .inr (0, [.int wi, .int hi, .int fo, .ref gi, .ref ke, .ref sp, .ref pi, .ref fa])), (gi, .inr (1, [.ref gia, .int gin])), (gia, .inl (cJ, 114, .inr (.inl gif))), (ke, .inr (1, [.ref kea, .int ken])), (kea, .inl (cJ, 114, .inr (.inl kef))), (sp, .inr (1, [.ref spa, .int spn])), (spa, .inl (cJ, 114, .inr (.inl spf))), (pi, .inr (1, [.ref pia, .int (nI pm)])), (pia, .inl (cJ, 114, .inr (.inl pif))), (fa, .inr (2, [.ref fas, .ref fat, .ref faa, .int (nI (pu_fan bo pif faS faT faA (pm - 2)).1)])), (fas, .inl (cI, 17, .inl ((pu_fan bo pif faS faT faA (pm - 2)).2.1))), (fat, .inl (cI, 17, .inl ((pu_fan bo pif faS faT faA (pm - 2)).2.2.1))), (faa, .inl (cI, 17, .inl ((pu_fan bo pif faS faT faA (pm - 2)).2.2.2)))]) A) ([.ref ob, .int bo] : List Value).toArray s 0 0 A) (F0 m 9 ls []) := by
    intro  n
    induction n with
    | zero =>
      intro j hk hm
      exact absurd hm (by omega)
    | succ n ih =>
      intro j hk hm H locs hP hD hS ls hl
      refine lv_iload_n hx hb d_PC_divide_9 rfl (lv_at hl 2 rfl) ?_
      refine lv_iconst (v := 1) hx hb d_PC_divide_10 (by decide) ?_
      refine lv_iadd hx hb d_PC_divide_11 ?_
      refine lv_topi (fun y_1 ey_1 => ?_)
      have ey_1 : y_1 = nI (j + 1 + 1) := by rw [ey_1]; first | rfl | (simp only [nk_set_0, nk_set_1, nk_set_2, nk_set_3, nk_set_4, nk_set_5, nk_set_6, nk_set_7, nk_set_12, nk_set_13, nk_set_18, pk_mul, nI_add]; done) | (simp only [nk_set_0, nk_set_1, nk_set_2, nk_set_3, nk_set_4, nk_set_5, nk_set_6, nk_set_7, nk_set_12, nk_set_13, nk_set_18, pk_mul, nI_add]; exact congrArg nI (by omega))
      subst ey_1
      refine lv_aload_n hx hb d_PC_divide_12 rfl (lv_at hl 0 rfl) ?_
      refine va_get (D := (dC, dI)) (ci := 0) (v := .ref pi) (C := R_PC) (T := F_PC) (N := 8) hx hb hts (fun w h => mw (i_PC w h)) hown hK hP 0 rfl rfl 6 (by decide) (hts _ (mw wd_87)) (fun _ h9 => h9) rfl d_PC_divide_13 ?_
      refine va_getN (D := (dC, dI)) (ci := 1) (v := .int (nI pm)) (C := R_Ri) (T := F_Ri) (N := 2) hx hb hts (fun w h => mw (i_Ri w h)) hown hK hP 7 rfl rfl 1 (by decide) (va_Nw.use rfl (hN _ nw_1)) (fun _ h9 => h9) rfl d_PC_divide_16 ?_
      refine lv_icmp_ge (tgt := 81) hx hb d_PC_divide_19 (by decide) (fun c_2 => ?_) (fun c_2 => ?_)
      · have c_2 : nI pm ≤ nI (j + 1 + 1) := c_2
        rw [nI_leI (by omega) (by omega)] at c_2
        have c_2 : pm ≤ (j + 1 + 1) := c_2
        have hkk : pm - 2 = j := by omega
        rw [← hkk] at hP hD
        exact W.vret hx hb hr (fun t ht hW => ⟨⟨(), rfl, trivial, by rw [ht]; exact hP, hD⟩, hS.F ht⟩) hS.2.2 d_PC_divide_81
      · have c_2 : ¬ (nI pm ≤ nI (j + 1 + 1)) := c_2
        rw [nI_leI (by omega) (by omega)] at c_2
        have c_2 : ¬ (pm ≤ (j + 1 + 1)) := c_2
        refine lv_aload_n hx hb d_PC_divide_22 rfl (lv_at hl 0 rfl) ?_
        refine lv_iload_n hx hb d_PC_divide_23 rfl (lv_at hl 2 rfl) ?_
        refine lv_iload_n hx hb d_PC_divide_24 rfl (lv_at hl 2 rfl) ?_
        refine lv_iconst (v := 1) hx hb d_PC_divide_25 (by decide) ?_
        refine lv_iadd hx hb d_PC_divide_26 ?_
        refine lv_topi (fun y_3 ey_3 => ?_)
        have ey_3 : y_3 = nI (j + 1 + 1) := by rw [ey_3]; first | rfl | (simp only [nk_set_0, nk_set_1, nk_set_2, nk_set_3, nk_set_4, nk_set_5, nk_set_6, nk_set_7, nk_set_12, nk_set_13, nk_set_18, pk_mul, nI_add]; done) | (simp only [nk_set_0, nk_set_1, nk_set_2, nk_set_3, nk_set_4, nk_set_5, nk_set_6, nk_set_7, nk_set_12, nk_set_13, nk_set_18, pk_mul, nI_add]; exact congrArg nI (by omega))
        subst ey_3
        have hPc := hP
        refine vp_callSl (va_Run.run (va_runV (As := [.int (nI (j + 1)), .int (nI (j + 1 + 1))]) (rest := []) ⟨hx, hb, hml, hown, hts⟩ (k_PC_areaWith l dC dI cJ cI ob wi hi fo gi gia gin gif ke kea ken kef sp spa spn spf pi pia pm pif fa fas fat faa (nI (pu_fan bo pif faS faT faA j).1) ((pu_fan bo pif faS faT faA j).2.1) ((pu_fan bo pif faS faT faA j).2.2.1) ((pu_fan bo pif faS faT faA j).2.2.2) (j + 1) (j + 1 + 1) (by omega) (by omega) (by omega)) (cwV 2 hts (gd_V wd_165 wd_166 wd_12 wd_33 wd_167) rfl rfl rfl (by decide +kernel) ⟨Nat.le_of_ble_eq_true rfl, Nat.le_of_ble_eq_true rfl⟩) ⟨fb_ro, va_recv hK hPc (ci := 0) (q0 := 0) rfl rfl, pre_ro hK hN hPc⟩ rfl rfl hl.1 rfl (lv_room (Nat.le_of_ble_eq_true rfl)) d_PC_divide_27 ⟨Nat.le_of_ble_eq_true rfl, Nat.le_of_ble_eq_true rfl⟩)) (fun r_4 er_4 => ?_)
        have er_4 : r_4 = pu_ar pif (j + 1) (j + 1 + 1) := er_4
        refine lv_lstore_n (lv' := [(3, .long r_4), (0, .ref ob), (1, .int bo), (2, .int (nI (j + 1)))]) hx hb d_PC_divide_30 rfl hl (by decide) rfl (fun ls hl => ?_)
        refine lv_lload_n hx hb d_PC_divide_31 rfl (lv_at hl 0 rfl) ?_
        refine lv_lconst (v := 0) hx hb d_PC_divide_32 (by decide) ?_
        refine W.lcmp hx hb d_PC_divide_33 ?_
        refine lv_if_le (tgt := 52) hx hb d_PC_divide_34 (by decide) (fun c_5 => ?_) (fun c_5 => ?_)
        · rw [lg_cmp_le] at c_5
          have c_5 : r_4 ≤ 0 := c_5
          refine lv_lload_n hx hb d_PC_divide_52 rfl (lv_at hl 0 rfl) ?_
          refine lv_lconst (v := 0) hx hb d_PC_divide_53 (by decide) ?_
          refine W.lcmp hx hb d_PC_divide_54 ?_
          refine lv_if_ge (tgt := 75) hx hb d_PC_divide_55 (by decide) (fun c_6 => ?_) (fun c_6 => ?_)
          · rw [lg_cmp_ge] at c_6
            have c_6 : 0 ≤ r_4 := c_6
            refine lv_iinc (v := (nI (j + 1 + 1))) (lv' := [(2, .int (nI (j + 1 + 1))), (3, .long r_4), (0, .ref ob), (1, .int bo)]) hx hb d_PC_divide_75 hl (k := 3) rfl (nI_1 (j + 1)) (by decide) rfl (fun ls hl => ?_)
            refine lv_goto (tgt := 9) hx hb d_PC_divide_78 (by decide) ?_
            subst er_4
            have hstep := pu_fan_z (bo := bo) (S0 := faS) (T0 := faT) (A0 := faA) (gt_n c_5) (fun q => lt_n c_6 q.1)
            refine ih (j + 1) (by omega) (by omega) _ _ ?_ ?_ hS ls (lv_sub hl [2, 3, 0] rfl)
            · rw [hstep]; exact hP
            · rw [hstep]; exact hD
          · rw [lg_cmp_ge] at c_6
            have c_6 : ¬ (0 ≤ r_4) := c_6
            refine lv_iload_n hx hb d_PC_divide_58 rfl (lv_at hl 2 rfl) ?_
            refine lv_if_eq (tgt := 75) hx hb d_PC_divide_59 (by decide) (fun c_7 => ?_) (fun c_7 => ?_)
            · have c_7 : bo = 0 := c_7
              refine lv_iinc (v := (nI (j + 1 + 1))) (lv' := [(2, .int (nI (j + 1 + 1))), (3, .long r_4), (0, .ref ob), (1, .int bo)]) hx hb d_PC_divide_75 hl (k := 3) rfl (nI_1 (j + 1)) (by decide) rfl (fun ls hl => ?_)
              refine lv_goto (tgt := 9) hx hb d_PC_divide_78 (by decide) ?_
              subst er_4
              have hstep := pu_fan_z (bo := bo) (S0 := faS) (T0 := faT) (A0 := faA) (gt_n c_5) (fun q => q.2 c_7)
              refine ih (j + 1) (by omega) (by omega) _ _ ?_ ?_ hS ls (lv_sub hl [2, 3, 0] rfl)
              · rw [hstep]; exact hP
              · rw [hstep]; exact hD
            · have c_7 : ¬ (bo = 0) := c_7
              refine lv_aload_n hx hb d_PC_divide_62 rfl (lv_at hl 1 rfl) ?_
              refine va_get (D := (dC, dI)) (ci := 0) (v := .ref fa) (C := R_PC) (T := F_PC) (N := 8) hx hb hts (fun w h => mw (i_PC w h)) hown hK hP 0 rfl rfl 7 (by decide) (hts _ (mw wd_88)) (fun _ h9 => h9) rfl d_PC_divide_63 ?_
              refine lv_iload_n hx hb d_PC_divide_66 rfl (lv_at hl 3 rfl) ?_
              refine lv_iconst (v := 1) hx hb d_PC_divide_67 (by decide) ?_
              refine lv_iadd hx hb d_PC_divide_68 ?_
              refine lv_topi (fun y_8 ey_8 => ?_)
              have ey_8 : y_8 = nI (j + 1 + 1) := by rw [ey_8]; first | rfl | (simp only [nk_set_0, nk_set_1, nk_set_2, nk_set_3, nk_set_4, nk_set_5, nk_set_6, nk_set_7, nk_set_12, nk_set_13, nk_set_18, pk_mul, nI_add]; done) | (simp only [nk_set_0, nk_set_1, nk_set_2, nk_set_3, nk_set_4, nk_set_5, nk_set_6, nk_set_7, nk_set_12, nk_set_13, nk_set_18, pk_mul, nI_add]; exact congrArg nI (by omega))
              subst ey_8
              refine lv_iload_n hx hb d_PC_divide_69 rfl (lv_at hl 3 rfl) ?_
              refine lv_lload_n hx hb d_PC_divide_70 rfl (lv_at hl 0 rfl) ?_
              refine lv_lneg hx hb d_PC_divide_71 ?_
              have hPc := hP.sub (ws' := [(fa, .inr (2, [.ref fas, .ref fat, .ref faa, .int (nI (pu_fan bo pif faS faT faA j).1)])), (fas, .inl (cI, 17, .inl ((pu_fan bo pif faS faT faA j).2.1))), (fat, .inl (cI, 17, .inl ((pu_fan bo pif faS faT faA j).2.2.1))), (faa, .inl (cI, 17, .inl ((pu_fan bo pif faS faT faA j).2.2.2)))]) [9, 10, 11, 12] rfl
              have hDc := hD.sub (ws' := [(fa, .inr (2, [.ref fas, .ref fat, .ref faa, .int (nI (pu_fan bo pif faS faT faA j).1)])), (fas, .inl (cI, 17, .inl ((pu_fan bo pif faS faT faA j).2.1))), (fat, .inl (cI, 17, .inl ((pu_fan bo pif faS faT faA j).2.2.1))), (faa, .inl (cI, 17, .inl ((pu_fan bo pif faS faT faA j).2.2.2)))]) [9, 10, 11, 12] (by decide) rfl
              have hFc := va_free (wc := [(fa, .inr (2, [.ref fas, .ref fat, .ref faa, .int (nI (pu_fan bo pif faS faT faA j).1)])), (fas, .inl (cI, 17, .inl ((pu_fan bo pif faS faT faA j).2.1))), (fat, .inl (cI, 17, .inl ((pu_fan bo pif faS faT faA j).2.2.1))), (faa, .inl (cI, 17, .inl ((pu_fan bo pif faS faT faA j).2.2.2)))]) hD hS hA [9, 10, 11, 12] rfl
              refine va_callv (va_runVN (As := [.int (nI (j + 1 + 1)), .int (nI (j + 1)), .long (-r_4)]) (rest := []) ⟨hx, hb, hml, hown, hts⟩ (k_Fa_add l dC dI cJ cI H.size fa fas fat faa ((pu_fan bo pif faS faT faA j).1) ((pu_fan bo pif faS faT faA j).2.1) ((pu_fan bo pif faS faT faA j).2.2.1) ((pu_fan bo pif faS faT faA j).2.2.2) (nI (j + 1 + 1)) (nI (j + 1)) (-r_4) (by have := pu_fan_le (bo := bo) (P := pif) (S0 := faS) (T0 := faT) (A0 := faA) j; omega)) (⟨va_cnB 3 hts (gd_0 wd_169) rfl rfl rfl (hN _ nw_12) (hts _ (mw wd_36)) (by decide +kernel) ⟨Nat.le_of_ble_eq_true rfl, Nat.le_of_ble_eq_true rfl⟩, (hts _ (mw wd_168)), (hts _ (mw wd_13))⟩) ⟨fb_rw, va_recv hK hPc (ci := 2) (q0 := 0) rfl rfl, pre_rw hK hN hPc hDc⟩ rfl rfl hl.1 rfl (lv_room (Nat.le_of_ble_eq_true rfl)) d_PC_divide_72 ⟨Nat.le_of_ble_eq_true rfl, Nat.le_of_ble_eq_true rfl⟩) hS (fun q _ h => hFc q h) hFc (fun u t H locs ht hvm hw hB hz1 hk1 hS => ?_)
              obtain ⟨hP1, hD1⟩ := hB
              rw [ht] at hP1
              obtain ⟨hP, hD⟩ := va_join (wr := [(ob, .inr (0, [.int wi, .int hi, .int fo, .ref gi, .ref ke, .ref sp, .ref pi, .ref fa])), (gi, .inr (1, [.ref gia, .int gin])), (gia, .inl (cJ, 114, .inr (.inl gif))), (ke, .inr (1, [.ref kea, .int ken])), (kea, .inl (cJ, 114, .inr (.inl kef))), (sp, .inr (1, [.ref spa, .int spn])), (spa, .inl (cJ, 114, .inr (.inl spf))), (pi, .inr (1, [.ref pia, .int (nI pm)])), (pia, .inl (cJ, 114, .inr (.inl pif)))]) (w1 := [(fa, .inr (2, [.ref fas, .ref fat, .ref faa, .int (nI (((pu_fan bo pif faS faT faA j).1) + 1))])), (fas, .inl (cI, 17, .inl (upd ((pu_fan bo pif faS faT faA j).2.1) ((pu_fan bo pif faS faT faA j).1) (nI (j + 1 + 1))))), (fat, .inl (cI, 17, .inl (upd ((pu_fan bo pif faS faT faA j).2.2.1) ((pu_fan bo pif faS faT faA j).1) (nI (j + 1))))), (faa, .inl (cI, 17, .inl (upd ((pu_fan bo pif faS faT faA j).2.2.2) ((pu_fan bo pif faS faT faA j).1) (-r_4).toInt32)))]) hP hD [9, 10, 11, 12] [0, 1, 2, 3, 4, 5, 6, 7, 8] rfl rfl (by decide) (by decide) hk1 hFc hP1 hD1
              have hP : va_P (dC, dI) cls4 [(ob, .inr (0, [.int wi, .int hi, .int fo, .ref gi, .ref ke, .ref sp, .ref pi, .ref fa])), (gi, .inr (1, [.ref gia, .int gin])), (gia, .inl (cJ, 114, .inr (.inl gif))), (ke, .inr (1, [.ref kea, .int ken])), (kea, .inl (cJ, 114, .inr (.inl kef))), (sp, .inr (1, [.ref spa, .int spn])), (spa, .inl (cJ, 114, .inr (.inl spf))), (pi, .inr (1, [.ref pia, .int (nI pm)])), (pia, .inl (cJ, 114, .inr (.inl pif))), (fa, .inr (2, [.ref fas, .ref fat, .ref faa, .int (nI (((pu_fan bo pif faS faT faA j).1) + 1))])), (fas, .inl (cI, 17, .inl (upd ((pu_fan bo pif faS faT faA j).2.1) ((pu_fan bo pif faS faT faA j).1) (nI (j + 1 + 1))))), (fat, .inl (cI, 17, .inl (upd ((pu_fan bo pif faS faT faA j).2.2.1) ((pu_fan bo pif faS faT faA j).1) (nI (j + 1))))), (faa, .inl (cI, 17, .inl (upd ((pu_fan bo pif faS faT faA j).2.2.2) ((pu_fan bo pif faS faT faA j).1) (-r_4).toInt32)))] H := hP
              have hD : va_D A [(ob, .inr (0, [.int wi, .int hi, .int fo, .ref gi, .ref ke, .ref sp, .ref pi, .ref fa])), (gi, .inr (1, [.ref gia, .int gin])), (gia, .inl (cJ, 114, .inr (.inl gif))), (ke, .inr (1, [.ref kea, .int ken])), (kea, .inl (cJ, 114, .inr (.inl kef))), (sp, .inr (1, [.ref spa, .int spn])), (spa, .inl (cJ, 114, .inr (.inl spf))), (pi, .inr (1, [.ref pia, .int (nI pm)])), (pia, .inl (cJ, 114, .inr (.inl pif))), (fa, .inr (2, [.ref fas, .ref fat, .ref faa, .int (nI (((pu_fan bo pif faS faT faA j).1) + 1))])), (fas, .inl (cI, 17, .inl (upd ((pu_fan bo pif faS faT faA j).2.1) ((pu_fan bo pif faS faT faA j).1) (nI (j + 1 + 1))))), (fat, .inl (cI, 17, .inl (upd ((pu_fan bo pif faS faT faA j).2.2.1) ((pu_fan bo pif faS faT faA j).1) (nI (j + 1))))), (faa, .inl (cI, 17, .inl (upd ((pu_fan bo pif faS faT faA j).2.2.2) ((pu_fan bo pif faS faT faA j).1) (-r_4).toInt32)))] := hD
              refine lv_iinc (v := (nI (j + 1 + 1))) (lv' := [(2, .int (nI (j + 1 + 1))), (3, .long r_4), (0, .ref ob), (1, .int bo)]) hx hb d_PC_divide_75 hl (k := 3) rfl (nI_1 (j + 1)) (by decide) rfl (fun ls hl => ?_)
              refine lv_goto (tgt := 9) hx hb d_PC_divide_78 (by decide) ?_
              subst er_4
              have hstep := pu_fan_n (bo := bo) (S0 := faS) (T0 := faT) (A0 := faA) (gt_n c_5) (lt_y c_6) c_7
              refine ih (j + 1) (by omega) (by omega) _ _ ?_ ?_ hS ls (lv_sub hl [2, 3, 0] rfl)
              · rw [hstep]; exact hP
              · rw [hstep]; exact hD
        · rw [lg_cmp_le] at c_5
          have c_5 : ¬ (r_4 ≤ 0) := c_5
          refine lv_aload_n hx hb d_PC_divide_37 rfl (lv_at hl 1 rfl) ?_
          refine va_get (D := (dC, dI)) (ci := 0) (v := .ref fa) (C := R_PC) (T := F_PC) (N := 8) hx hb hts (fun w h => mw (i_PC w h)) hown hK hP 0 rfl rfl 7 (by decide) (hts _ (mw wd_88)) (fun _ h9 => h9) rfl d_PC_divide_38 ?_
          refine lv_iload_n hx hb d_PC_divide_41 rfl (lv_at hl 3 rfl) ?_
          refine lv_iload_n hx hb d_PC_divide_42 rfl (lv_at hl 3 rfl) ?_
          refine lv_iconst (v := 1) hx hb d_PC_divide_43 (by decide) ?_
          refine lv_iadd hx hb d_PC_divide_44 ?_
          refine lv_topi (fun y_9 ey_9 => ?_)
          have ey_9 : y_9 = nI (j + 1 + 1) := by rw [ey_9]; first | rfl | (simp only [nk_set_0, nk_set_1, nk_set_2, nk_set_3, nk_set_4, nk_set_5, nk_set_6, nk_set_7, nk_set_12, nk_set_13, nk_set_18, pk_mul, nI_add]; done) | (simp only [nk_set_0, nk_set_1, nk_set_2, nk_set_3, nk_set_4, nk_set_5, nk_set_6, nk_set_7, nk_set_12, nk_set_13, nk_set_18, pk_mul, nI_add]; exact congrArg nI (by omega))
          subst ey_9
          refine lv_lload_n hx hb d_PC_divide_45 rfl (lv_at hl 0 rfl) ?_
          have hPc := hP.sub (ws' := [(fa, .inr (2, [.ref fas, .ref fat, .ref faa, .int (nI (pu_fan bo pif faS faT faA j).1)])), (fas, .inl (cI, 17, .inl ((pu_fan bo pif faS faT faA j).2.1))), (fat, .inl (cI, 17, .inl ((pu_fan bo pif faS faT faA j).2.2.1))), (faa, .inl (cI, 17, .inl ((pu_fan bo pif faS faT faA j).2.2.2)))]) [9, 10, 11, 12] rfl
          have hDc := hD.sub (ws' := [(fa, .inr (2, [.ref fas, .ref fat, .ref faa, .int (nI (pu_fan bo pif faS faT faA j).1)])), (fas, .inl (cI, 17, .inl ((pu_fan bo pif faS faT faA j).2.1))), (fat, .inl (cI, 17, .inl ((pu_fan bo pif faS faT faA j).2.2.1))), (faa, .inl (cI, 17, .inl ((pu_fan bo pif faS faT faA j).2.2.2)))]) [9, 10, 11, 12] (by decide) rfl
          have hFc := va_free (wc := [(fa, .inr (2, [.ref fas, .ref fat, .ref faa, .int (nI (pu_fan bo pif faS faT faA j).1)])), (fas, .inl (cI, 17, .inl ((pu_fan bo pif faS faT faA j).2.1))), (fat, .inl (cI, 17, .inl ((pu_fan bo pif faS faT faA j).2.2.1))), (faa, .inl (cI, 17, .inl ((pu_fan bo pif faS faT faA j).2.2.2)))]) hD hS hA [9, 10, 11, 12] rfl
          refine va_callv (va_runVN (As := [.int (nI (j + 1)), .int (nI (j + 1 + 1)), .long r_4]) (rest := []) ⟨hx, hb, hml, hown, hts⟩ (k_Fa_add l dC dI cJ cI H.size fa fas fat faa ((pu_fan bo pif faS faT faA j).1) ((pu_fan bo pif faS faT faA j).2.1) ((pu_fan bo pif faS faT faA j).2.2.1) ((pu_fan bo pif faS faT faA j).2.2.2) (nI (j + 1)) (nI (j + 1 + 1)) r_4 (by have := pu_fan_le (bo := bo) (P := pif) (S0 := faS) (T0 := faT) (A0 := faA) j; omega)) (⟨va_cnB 3 hts (gd_0 wd_169) rfl rfl rfl (hN _ nw_12) (hts _ (mw wd_36)) (by decide +kernel) ⟨Nat.le_of_ble_eq_true rfl, Nat.le_of_ble_eq_true rfl⟩, (hts _ (mw wd_168)), (hts _ (mw wd_13))⟩) ⟨fb_rw, va_recv hK hPc (ci := 2) (q0 := 0) rfl rfl, pre_rw hK hN hPc hDc⟩ rfl rfl hl.1 rfl (lv_room (Nat.le_of_ble_eq_true rfl)) d_PC_divide_46 ⟨Nat.le_of_ble_eq_true rfl, Nat.le_of_ble_eq_true rfl⟩) hS (fun q _ h => hFc q h) hFc (fun u t H locs ht hvm hw hB hz1 hk1 hS => ?_)
          obtain ⟨hP1, hD1⟩ := hB
          rw [ht] at hP1
          obtain ⟨hP, hD⟩ := va_join (wr := [(ob, .inr (0, [.int wi, .int hi, .int fo, .ref gi, .ref ke, .ref sp, .ref pi, .ref fa])), (gi, .inr (1, [.ref gia, .int gin])), (gia, .inl (cJ, 114, .inr (.inl gif))), (ke, .inr (1, [.ref kea, .int ken])), (kea, .inl (cJ, 114, .inr (.inl kef))), (sp, .inr (1, [.ref spa, .int spn])), (spa, .inl (cJ, 114, .inr (.inl spf))), (pi, .inr (1, [.ref pia, .int (nI pm)])), (pia, .inl (cJ, 114, .inr (.inl pif)))]) (w1 := [(fa, .inr (2, [.ref fas, .ref fat, .ref faa, .int (nI (((pu_fan bo pif faS faT faA j).1) + 1))])), (fas, .inl (cI, 17, .inl (upd ((pu_fan bo pif faS faT faA j).2.1) ((pu_fan bo pif faS faT faA j).1) (nI (j + 1))))), (fat, .inl (cI, 17, .inl (upd ((pu_fan bo pif faS faT faA j).2.2.1) ((pu_fan bo pif faS faT faA j).1) (nI (j + 1 + 1))))), (faa, .inl (cI, 17, .inl (upd ((pu_fan bo pif faS faT faA j).2.2.2) ((pu_fan bo pif faS faT faA j).1) r_4.toInt32)))]) hP hD [9, 10, 11, 12] [0, 1, 2, 3, 4, 5, 6, 7, 8] rfl rfl (by decide) (by decide) hk1 hFc hP1 hD1
          have hP : va_P (dC, dI) cls4 [(ob, .inr (0, [.int wi, .int hi, .int fo, .ref gi, .ref ke, .ref sp, .ref pi, .ref fa])), (gi, .inr (1, [.ref gia, .int gin])), (gia, .inl (cJ, 114, .inr (.inl gif))), (ke, .inr (1, [.ref kea, .int ken])), (kea, .inl (cJ, 114, .inr (.inl kef))), (sp, .inr (1, [.ref spa, .int spn])), (spa, .inl (cJ, 114, .inr (.inl spf))), (pi, .inr (1, [.ref pia, .int (nI pm)])), (pia, .inl (cJ, 114, .inr (.inl pif))), (fa, .inr (2, [.ref fas, .ref fat, .ref faa, .int (nI (((pu_fan bo pif faS faT faA j).1) + 1))])), (fas, .inl (cI, 17, .inl (upd ((pu_fan bo pif faS faT faA j).2.1) ((pu_fan bo pif faS faT faA j).1) (nI (j + 1))))), (fat, .inl (cI, 17, .inl (upd ((pu_fan bo pif faS faT faA j).2.2.1) ((pu_fan bo pif faS faT faA j).1) (nI (j + 1 + 1))))), (faa, .inl (cI, 17, .inl (upd ((pu_fan bo pif faS faT faA j).2.2.2) ((pu_fan bo pif faS faT faA j).1) r_4.toInt32)))] H := hP
          have hD : va_D A [(ob, .inr (0, [.int wi, .int hi, .int fo, .ref gi, .ref ke, .ref sp, .ref pi, .ref fa])), (gi, .inr (1, [.ref gia, .int gin])), (gia, .inl (cJ, 114, .inr (.inl gif))), (ke, .inr (1, [.ref kea, .int ken])), (kea, .inl (cJ, 114, .inr (.inl kef))), (sp, .inr (1, [.ref spa, .int spn])), (spa, .inl (cJ, 114, .inr (.inl spf))), (pi, .inr (1, [.ref pia, .int (nI pm)])), (pia, .inl (cJ, 114, .inr (.inl pif))), (fa, .inr (2, [.ref fas, .ref fat, .ref faa, .int (nI (((pu_fan bo pif faS faT faA j).1) + 1))])), (fas, .inl (cI, 17, .inl (upd ((pu_fan bo pif faS faT faA j).2.1) ((pu_fan bo pif faS faT faA j).1) (nI (j + 1))))), (fat, .inl (cI, 17, .inl (upd ((pu_fan bo pif faS faT faA j).2.2.1) ((pu_fan bo pif faS faT faA j).1) (nI (j + 1 + 1))))), (faa, .inl (cI, 17, .inl (upd ((pu_fan bo pif faS faT faA j).2.2.2) ((pu_fan bo pif faS faT faA j).1) r_4.toInt32)))] := hD
          refine lv_goto (tgt := 75) hx hb d_PC_divide_49 (by decide) ?_
          refine lv_iinc (v := (nI (j + 1 + 1))) (lv' := [(2, .int (nI (j + 1 + 1))), (3, .long r_4), (0, .ref ob), (1, .int bo)]) hx hb d_PC_divide_75 hl (k := 3) rfl (nI_1 (j + 1)) (by decide) rfl (fun ls hl => ?_)
          refine lv_goto (tgt := 9) hx hb d_PC_divide_78 (by decide) ?_
          subst er_4
          have hstep := pu_fan_p (bo := bo) (S0 := faS) (T0 := faT) (A0 := faA) (gt_0 c_5)
          refine ih (j + 1) (by omega) (by omega) _ _ ?_ ?_ hS ls (lv_sub hl [2, 3, 0] rfl)
          · rw [hstep]; exact hP
          · rw [hstep]; exact hD
  refine lv_aload_n hx hb d_PC_divide_0 rfl (lv_at hl 0 rfl) ?_
  refine va_get (D := (dC, dI)) (ci := 0) (v := .ref fa) (C := R_PC) (T := F_PC) (N := 8) hx hb hts (fun w h => mw (i_PC w h)) hown hK hP 0 rfl rfl 7 (by decide) (hts _ (mw wd_88)) (fun _ h9 => h9) rfl d_PC_divide_1 ?_
  have hPc := hP.sub (ws' := [(fa, .inr (2, [.ref fas, .ref fat, .ref faa, .int fan])), (fas, .inl (cI, 17, .inl faS)), (fat, .inl (cI, 17, .inl faT)), (faa, .inl (cI, 17, .inl faA))]) [9, 10, 11, 12] rfl
  have hDc := hD.sub (ws' := [(fa, .inr (2, [.ref fas, .ref fat, .ref faa, .int fan])), (fas, .inl (cI, 17, .inl faS)), (fat, .inl (cI, 17, .inl faT)), (faa, .inl (cI, 17, .inl faA))]) [9, 10, 11, 12] (by decide) rfl
  have hFc := va_free (wc := [(fa, .inr (2, [.ref fas, .ref fat, .ref faa, .int fan])), (fas, .inl (cI, 17, .inl faS)), (fat, .inl (cI, 17, .inl faT)), (faa, .inl (cI, 17, .inl faA))]) hD hS hA [9, 10, 11, 12] rfl
  refine va_callv (va_runVN (As := []) (rest := []) ⟨hx, hb, hml, hown, hts⟩ (c_Fa_clear l dC dI cJ cI s.heap.size fa fas fat faa fan faS faT faA) (⟨va_cnB 0 hts (gd_0 wd_164) rfl rfl rfl (hN _ nw_11) (hts _ (mw wd_36)) (by decide +kernel) ⟨Nat.le_of_ble_eq_true rfl, Nat.le_of_ble_eq_true rfl⟩, (hts _ (mw wd_163)), (hts _ (mw wd_11))⟩) ⟨fb_rw, va_recv hK hPc (ci := 2) (q0 := 0) rfl rfl, pre_rw hK hN hPc hDc⟩ rfl rfl hl.1 rfl (lv_room (Nat.le_of_ble_eq_true rfl)) d_PC_divide_4 ⟨Nat.le_of_ble_eq_true rfl, Nat.le_of_ble_eq_true rfl⟩) hS (fun q _ h => hFc q h) hFc (fun u t H locs ht hvm hw hB hz1 hk1 hS => ?_)
  obtain ⟨hP1, hD1⟩ := hB
  rw [ht] at hP1
  obtain ⟨hP, hD⟩ := va_join (wr := [(ob, .inr (0, [.int wi, .int hi, .int fo, .ref gi, .ref ke, .ref sp, .ref pi, .ref fa])), (gi, .inr (1, [.ref gia, .int gin])), (gia, .inl (cJ, 114, .inr (.inl gif))), (ke, .inr (1, [.ref kea, .int ken])), (kea, .inl (cJ, 114, .inr (.inl kef))), (sp, .inr (1, [.ref spa, .int spn])), (spa, .inl (cJ, 114, .inr (.inl spf))), (pi, .inr (1, [.ref pia, .int (nI pm)])), (pia, .inl (cJ, 114, .inr (.inl pif)))]) (w1 := [(fa, .inr (2, [.ref fas, .ref fat, .ref faa, .int 0])), (fas, .inl (cI, 17, .inl faS)), (fat, .inl (cI, 17, .inl faT)), (faa, .inl (cI, 17, .inl faA))]) hP hD [9, 10, 11, 12] [0, 1, 2, 3, 4, 5, 6, 7, 8] rfl rfl (by decide) (by decide) hk1 hFc hP1 hD1
  have hP : va_P (dC, dI) cls4 [(ob, .inr (0, [.int wi, .int hi, .int fo, .ref gi, .ref ke, .ref sp, .ref pi, .ref fa])), (gi, .inr (1, [.ref gia, .int gin])), (gia, .inl (cJ, 114, .inr (.inl gif))), (ke, .inr (1, [.ref kea, .int ken])), (kea, .inl (cJ, 114, .inr (.inl kef))), (sp, .inr (1, [.ref spa, .int spn])), (spa, .inl (cJ, 114, .inr (.inl spf))), (pi, .inr (1, [.ref pia, .int (nI pm)])), (pia, .inl (cJ, 114, .inr (.inl pif))), (fa, .inr (2, [.ref fas, .ref fat, .ref faa, .int 0])), (fas, .inl (cI, 17, .inl faS)), (fat, .inl (cI, 17, .inl faT)), (faa, .inl (cI, 17, .inl faA))] H := hP
  have hD : va_D A [(ob, .inr (0, [.int wi, .int hi, .int fo, .ref gi, .ref ke, .ref sp, .ref pi, .ref fa])), (gi, .inr (1, [.ref gia, .int gin])), (gia, .inl (cJ, 114, .inr (.inl gif))), (ke, .inr (1, [.ref kea, .int ken])), (kea, .inl (cJ, 114, .inr (.inl kef))), (sp, .inr (1, [.ref spa, .int spn])), (spa, .inl (cJ, 114, .inr (.inl spf))), (pi, .inr (1, [.ref pia, .int (nI pm)])), (pia, .inl (cJ, 114, .inr (.inl pif))), (fa, .inr (2, [.ref fas, .ref fat, .ref faa, .int 0])), (fas, .inl (cI, 17, .inl faS)), (fat, .inl (cI, 17, .inl faT)), (faa, .inl (cI, 17, .inl faA))] := hD
  refine lv_iconst (v := 1) hx hb d_PC_divide_7 (by decide) ?_
  refine lv_istore_n (lv' := [(2, .int 1), (0, .ref ob), (1, .int bo)]) hx hb d_PC_divide_8 rfl hl (by decide) rfl (fun ls hl => ?_)
  exact LOOP (pm + 1) 0 (by omega) (by omega) _ _ hP hD hS ls (lv_sub hl [1, 2, 0] rfl)
end
section
set_option maxHeartbeats 4000000 in
set_option maxRecDepth 100000 in
theorem c_PC_cut (l : Launch) (dC : Nat → ClassId) (dI : Nat → Nat → Nat) (cJ cI : ClassId) (sz : Nat) (ob : Nat) (wi : Int32) (hi : Int32) (fo : Int32) (gi : Nat) (gia : Nat) (gif : Nat → Int64) (ke : Nat) (kea : Nat) (ken : Int32) (kef : Nat → Int64) (sp : Nat) (spa : Nat) (spn : Int32) (spf : Nat → Int64) (pi : Nat) (pia : Nat) (pin : Int32) (pif : Nat → Int64) (fa : Nat) (fas : Nat) (fat : Nat) (faa : Nat) (fan : Int32) (faS : Nat → Int32) (faT : Nat → Int32) (faA : Nat → Int32) (bo : Int32) (hfit : pu_fit fo wi hi) (hG : pu_given gif) : Met l y_PC_cut w_PC_cut ({ frames := 5, cells := 0, slots := 0, locals := 129 } : Room) (rq_rw (dC, dI) cJ cI sz [.ref ob, .int bo] [(ob, .inr (0, [.int wi, .int hi, .int fo, .ref gi, .ref ke, .ref sp, .ref pi, .ref fa])), (gi, .inr (1, [.ref gia, .int 3])), (gia, .inl (cJ, 114, .inr (.inl gif))), (ke, .inr (1, [.ref kea, .int ken])), (kea, .inl (cJ, 114, .inr (.inl kef))), (sp, .inr (1, [.ref spa, .int spn])), (spa, .inl (cJ, 114, .inr (.inl spf))), (pi, .inr (1, [.ref pia, .int pin])), (pia, .inl (cJ, 114, .inr (.inl pif))), (fa, .inr (2, [.ref fas, .ref fat, .ref faa, .int fan])), (fas, .inl (cI, 17, .inl faS)), (fat, .inl (cI, 17, .inl faT)), (faa, .inl (cI, 17, .inl faA))]) (va_Qi (fun (r : Int32) (_ : Unit) => r = nI (pu_cutF (decide (¬ bo = 0)) fo wi hi gif).1) (fun (_ : Unit) (t : State) => ∃ (k1 : Nat) (k1a : Nat) (s1 : Nat) (s1a : Nat) (kv : Int32) (kf : Nat → Int64) (sv : Int32) (sf : Nat → Int64) (pf : Nat → Int64) (fS : Nat → Int32) (fT : Nat → Int32) (fA : Nat → Int32), va_P (dC, dI) cls4 [(ob, .inr (0, [.int wi, .int hi, .int fo, .ref gi, .ref k1, .ref s1, .ref pi, .ref fa])), (gi, .inr (1, [.ref gia, .int 3])), (gia, .inl (cJ, 114, .inr (.inl gif))), (k1, .inr (1, [.ref k1a, .int kv])), (k1a, .inl (cJ, 114, .inr (.inl kf))), (s1, .inr (1, [.ref s1a, .int sv])), (s1a, .inl (cJ, 114, .inr (.inl sf))), (pi, .inr (1, [.ref pia, .int (nI (pu_cutR fo wi hi gif).1)])), (pia, .inl (cJ, 114, .inr (.inl pf))), (fa, .inr (2, [.ref fas, .ref fat, .ref faa, .int (nI (pu_cutF (decide (¬ bo = 0)) fo wi hi gif).1)])), (fas, .inl (cI, 17, .inl fS)), (fat, .inl (cI, 17, .inl fT)), (faa, .inl (cI, 17, .inl fA))] t.heap ∧ va_D (va_A [(ob, .inr (0, [.int wi, .int hi, .int fo, .ref gi, .ref ke, .ref sp, .ref pi, .ref fa])), (gi, .inr (1, [.ref gia, .int 3])), (gia, .inl (cJ, 114, .inr (.inl gif))), (ke, .inr (1, [.ref kea, .int ken])), (kea, .inl (cJ, 114, .inr (.inl kef))), (sp, .inr (1, [.ref spa, .int spn])), (spa, .inl (cJ, 114, .inr (.inl spf))), (pi, .inr (1, [.ref pia, .int pin])), (pia, .inl (cJ, 114, .inr (.inl pif))), (fa, .inr (2, [.ref fas, .ref fat, .ref faa, .int fan])), (fas, .inl (cI, 17, .inl faS)), (fat, .inl (cI, 17, .inl faT)), (faa, .inl (cI, 17, .inl faA))] sz) [(ob, .inr (0, [.int wi, .int hi, .int fo, .ref gi, .ref k1, .ref s1, .ref pi, .ref fa])), (gi, .inr (1, [.ref gia, .int 3])), (gia, .inl (cJ, 114, .inr (.inl gif))), (k1, .inr (1, [.ref k1a, .int kv])), (k1a, .inl (cJ, 114, .inr (.inl kf))), (s1, .inr (1, [.ref s1a, .int sv])), (s1a, .inl (cJ, 114, .inr (.inl sf))), (pi, .inr (1, [.ref pia, .int (nI (pu_cutR fo wi hi gif).1)])), (pia, .inl (cJ, 114, .inr (.inl pf))), (fa, .inr (2, [.ref fas, .ref fat, .ref faa, .int (nI (pu_cutF (decide (¬ bo = 0)) fo wi hi gif).1)])), (fas, .inl (cI, 17, .inl fS)), (fat, .inl (cI, 17, .inl fT)), (faa, .inl (cI, 17, .inl fA))] ∧ cl_rel (nI (pu_cutR fo wi hi gif).1) pf (nI (pu_cutF (decide (¬ bo = 0)) fo wi hi gif).1) fS fT fA (pu_cutF (decide (¬ bo = 0)) fo wi hi gif).1 (pu_cutR fo wi hi gif).1 (pu_cutF (decide (¬ bo = 0)) fo wi hi gif).2.1 (pu_cutF (decide (¬ bo = 0)) fo wi hi gif).2.2 (pu_cutP fo wi hi gif)) (va_A [(ob, .inr (0, [.int wi, .int hi, .int fo, .ref gi, .ref ke, .ref sp, .ref pi, .ref fa])), (gi, .inr (1, [.ref gia, .int 3])), (gia, .inl (cJ, 114, .inr (.inl gif))), (ke, .inr (1, [.ref kea, .int ken])), (kea, .inl (cJ, 114, .inr (.inl kef))), (sp, .inr (1, [.ref spa, .int spn])), (spa, .inl (cJ, 114, .inr (.inl spf))), (pi, .inr (1, [.ref pia, .int pin])), (pia, .inl (cJ, 114, .inr (.inl pif))), (fa, .inr (2, [.ref fas, .ref fat, .ref faa, .int fan])), (fas, .inl (cI, 17, .inl faS)), (fat, .inl (cI, 17, .inl faT)), (faa, .inl (cI, 17, .inl faA))] sz)) 0 0 (va_A [(ob, .inr (0, [.int wi, .int hi, .int fo, .ref gi, .ref ke, .ref sp, .ref pi, .ref fa])), (gi, .inr (1, [.ref gia, .int 3])), (gia, .inl (cJ, 114, .inr (.inl gif))), (ke, .inr (1, [.ref kea, .int ken])), (kea, .inl (cJ, 114, .inr (.inl kef))), (sp, .inr (1, [.ref spa, .int spn])), (spa, .inl (cJ, 114, .inr (.inl spf))), (pi, .inr (1, [.ref pia, .int pin])), (pia, .inl (cJ, 114, .inr (.inl pif))), (fa, .inr (2, [.ref fas, .ref fat, .ref faa, .int fan])), (fas, .inl (cI, 17, .inl faS)), (fat, .inl (cI, 17, .inl faT)), (faa, .inl (cI, 17, .inl faA))] sz) := by
  refine Met.ofW (cc := b_PC_cut) (maxL := 3) (ret := (some .int)) (by decide) rfl ?_
  intro p e s m args below meth c s₁ B hml hv
  obtain ⟨rfl, hsz, hP, hK, hN, hD0⟩ := hv
  have hx := B.exec
  have hb := B.bytes
  have hr := B.returns
  have hts := atoms_spec (ws := w_PC_cut) B.pre
  have hown : s.vm.findClass R_PC = some m.cls := findClass_of_methodNamed B.named
  have hlocks := B.notSynchronized
  subst hsz
  have hD := hD0.self (sz := s.heap.size)
  generalize hAe : va_A [(ob, .inr (0, [.int wi, .int hi, .int fo, .ref gi, .ref ke, .ref sp, .ref pi, .ref fa])), (gi, .inr (1, [.ref gia, .int 3])), (gia, .inl (cJ, 114, .inr (.inl gif))), (ke, .inr (1, [.ref kea, .int ken])), (kea, .inl (cJ, 114, .inr (.inl kef))), (sp, .inr (1, [.ref spa, .int spn])), (spa, .inl (cJ, 114, .inr (.inl spf))), (pi, .inr (1, [.ref pia, .int pin])), (pia, .inl (cJ, 114, .inr (.inl pif))), (fa, .inr (2, [.ref fas, .ref fat, .ref faa, .int fan])), (fas, .inl (cI, 17, .inl faS)), (fat, .inl (cI, 17, .inl faT)), (faa, .inl (cI, 17, .inl faA))] s.heap.size = A at hD ⊢
  have hA : ∀ q : Nat, s.heap.size ≤ q → A q := fun q h => by rw [← hAe]; exact Or.inr h
  have hS : va_S A s.heap s.heap [] := va_S.rf
  have hl := lv_entry ([.ref ob, .int bo]) (n := 3) (Nat.le_of_ble_eq_true rfl)
  rw [lg_entry_eq]
  generalize (lg_sl ([.ref ob, .int bo]) ++ List.replicate (3 - (lg_sl ([.ref ob, .int bo])).length) Slot.unset).toArray = ls at hl ⊢
  have hl : lv_has ls 3 [(0, .ref ob), (1, .int bo)] := hl
  have hP : va_P (dC, dI) cls4 [(ob, .inr (0, [.int wi, .int hi, .int fo, .ref gi, .ref ke, .ref sp, .ref pi, .ref fa])), (gi, .inr (1, [.ref gia, .int 3])), (gia, .inl (cJ, 114, .inr (.inl gif))), (ke, .inr (1, [.ref kea, .int ken])), (kea, .inl (cJ, 114, .inr (.inl kef))), (sp, .inr (1, [.ref spa, .int spn])), (spa, .inl (cJ, 114, .inr (.inl spf))), (pi, .inr (1, [.ref pia, .int pin])), (pia, .inl (cJ, 114, .inr (.inl pif))), (fa, .inr (2, [.ref fas, .ref fat, .ref faa, .int fan])), (fas, .inl (cI, 17, .inl faS)), (fat, .inl (cI, 17, .inl faT)), (faa, .inl (cI, 17, .inl faA))] s.heap := hP
  have LOOP : ∀ (n : Nat) (s9 : Nat) (k1 : Nat) (k1a : Nat) (s1 : Nat) (s1a : Nat) (kn : Nat) (kf : Nat → Int64) (sn : Int32) (sf : Nat → Int64), (s9 ≤ 5) → (6 ≤ s9 + n) → (kn = (pu_ring fo wi hi gif s9).1) → (∀ j, j < 6 * kn → kf j = (pu_ring fo wi hi gif s9).2 j) → ∀ (H : Heap) (locs : List Loc), va_P (dC, dI) cls4 [(ob, .inr (0, [.int wi, .int hi, .int fo, .ref gi, .ref k1, .ref s1, .ref pi, .ref fa])), (gi, .inr (1, [.ref gia, .int 3])), (gia, .inl (cJ, 114, .inr (.inl gif))), (k1, .inr (1, [.ref k1a, .int (nI kn)])), (k1a, .inl (cJ, 114, .inr (.inl kf))), (s1, .inr (1, [.ref s1a, .int sn])), (s1a, .inl (cJ, 114, .inr (.inl sf))), (pi, .inr (1, [.ref pia, .int pin])), (pia, .inl (cJ, 114, .inr (.inl pif))), (fa, .inr (2, [.ref fas, .ref fat, .ref faa, .int fan])), (fas, .inl (cI, 17, .inl faS)), (fat, .inl (cI, 17, .inl faT)), (faa, .inl (cI, 17, .inl faA))] H → va_D A [(ob, .inr (0, [.int wi, .int hi, .int fo, .ref gi, .ref k1, .ref s1, .ref pi, .ref fa])), (gi, .inr (1, [.ref gia, .int 3])), (gia, .inl (cJ, 114, .inr (.inl gif))), (k1, .inr (1, [.ref k1a, .int (nI kn)])), (k1a, .inl (cJ, 114, .inr (.inl kf))), (s1, .inr (1, [.ref s1a, .int sn])), (s1a, .inl (cJ, 114, .inr (.inl sf))), (pi, .inr (1, [.ref pia, .int pin])), (pia, .inl (cJ, 114, .inr (.inl pif))), (fa, .inr (2, [.ref fas, .ref fat, .ref faa, .int fan])), (fas, .inl (cI, 17, .inl faS)), (fat, .inl (cI, 17, .inl faT)), (faa, .inl (cI, 17, .inl faA))] → va_S A s.heap H locs → ∀ (ls : Array Slot), lv_has ls 3 [(0, .ref ob), (1, .int bo), (2, .int (nI s9))] → W p l e (headSpec w_PC_cut ({ frames := 5, cells := 0, slots := 0, locals := 129 } : Room)).room s m ([.ref ob, .int bo] : List Value).toArray below meth c H locs 0 0 (MQ below (va_Qi (fun (r : Int32) (_ : Unit) => r = nI (pu_cutF (decide (¬ bo = 0)) fo wi hi gif).1) (fun (_ : Unit) (t : State) => ∃ (k1 : Nat) (k1a : Nat) (s1 : Nat) (s1a : Nat) (kv : Int32) (kf : Nat → Int64) (sv : Int32) (sf : Nat → Int64) (pf : Nat → Int64) (fS : Nat → Int32) (fT : Nat → Int32) (fA : Nat → Int32), va_P (dC, dI) cls4 [(ob, .inr (0, [.int wi, .int hi, .int fo, .ref gi, .ref k1, .ref s1, .ref pi, .ref fa])), (gi, .inr (1, [.ref gia, .int 3])), (gia, .inl (cJ, 114, .inr (.inl gif))), (k1, .inr (1, [.ref k1a, .int kv])), (k1a, .inl (cJ, 114, .inr (.inl kf))), (s1, .inr (1, [.ref s1a, .int sv])), (s1a, .inl (cJ, 114, .inr (.inl sf))), (pi, .inr (1, [.ref pia, .int (nI (pu_cutR fo wi hi gif).1)])), (pia, .inl (cJ, 114, .inr (.inl pf))), (fa, .inr (2, [.ref fas, .ref fat, .ref faa, .int (nI (pu_cutF (decide (¬ bo = 0)) fo wi hi gif).1)])), (fas, .inl (cI, 17, .inl fS)), (fat, .inl (cI, 17, .inl fT)), (faa, .inl (cI, 17, .inl fA))] t.heap ∧ va_D A [(ob, .inr (0, [.int wi, .int hi, .int fo, .ref gi, .ref k1, .ref s1, .ref pi, .ref fa])), (gi, .inr (1, [.ref gia, .int 3])), (gia, .inl (cJ, 114, .inr (.inl gif))), (k1, .inr (1, [.ref k1a, .int kv])), (k1a, .inl (cJ, 114, .inr (.inl kf))), (s1, .inr (1, [.ref s1a, .int sv])), (s1a, .inl (cJ, 114, .inr (.inl sf))), (pi, .inr (1, [.ref pia, .int (nI (pu_cutR fo wi hi gif).1)])), (pia, .inl (cJ, 114, .inr (.inl pf))), (fa, .inr (2, [.ref fas, .ref fat, .ref faa, .int (nI (pu_cutF (decide (¬ bo = 0)) fo wi hi gif).1)])), (fas, .inl (cI, 17, .inl fS)), (fat, .inl (cI, 17, .inl fT)), (faa, .inl (cI, 17, .inl fA))] ∧ cl_rel (nI (pu_cutR fo wi hi gif).1) pf (nI (pu_cutF (decide (¬ bo = 0)) fo wi hi gif).1) fS fT fA (pu_cutF (decide (¬ bo = 0)) fo wi hi gif).1 (pu_cutR fo wi hi gif).1 (pu_cutF (decide (¬ bo = 0)) fo wi hi gif).2.1 (pu_cutF (decide (¬ bo = 0)) fo wi hi gif).2.2 (pu_cutP fo wi hi gif)) A) ([.ref ob, .int bo] : List Value).toArray s 0 0 A) (F0 m 34 ls []) := by
    intro  n
    induction n with
    | zero =>
      intro s9 k1 k1a s1 s1a kn kf sn sf hs hm hn ha
      exact absurd hm (by omega)
    | succ n ih =>
      intro s9 k1 k1a s1 s1a kn kf sn sf hs hm hn ha H locs hP hD hS ls hl
      refine lv_iload_n hx hb d_PC_cut_34 rfl (lv_at hl 2 rfl) ?_
      refine lv_iconst (v := 5) hx hb d_PC_cut_35 (by decide) ?_
      refine lv_icmp_ge (tgt := 50) hx hb d_PC_cut_36 (by decide) (fun c_1 => ?_) (fun c_1 => ?_)
      · have c_1 : nI 5 ≤ nI s9 := c_1
        rw [nI_leI (by omega) (by omega)] at c_1
        have c_1 : 5 ≤ s9 := c_1
        have h5 : s9 = 5 := by omega
        rw [h5] at hn ha
        refine lv_aload_n hx hb d_PC_cut_50 rfl (lv_at hl 0 rfl) ?_
        have hPc := hP
        have hDc := hD.sub (ws' := [(ob, .inr (0, [.int wi, .int hi, .int fo, .ref gi, .ref k1, .ref s1, .ref pi, .ref fa])), (gi, .inr (1, [.ref gia, .int 3])), (gia, .inl (cJ, 114, .inr (.inl gif))), (k1, .inr (1, [.ref k1a, .int (nI kn)])), (k1a, .inl (cJ, 114, .inr (.inl kf))), (s1, .inr (1, [.ref s1a, .int sn])), (s1a, .inl (cJ, 114, .inr (.inl sf))), (pi, .inr (1, [.ref pia, .int pin])), (pia, .inl (cJ, 114, .inr (.inl pif))), (fa, .inr (2, [.ref fas, .ref fat, .ref faa, .int fan])), (fas, .inl (cI, 17, .inl faS)), (fat, .inl (cI, 17, .inl faT)), (faa, .inl (cI, 17, .inl faA))]) [0, 1, 2, 3, 4, 5, 6, 7, 8, 9, 10, 11, 12] (by decide) rfl
        have hFc := va_free (wc := [(ob, .inr (0, [.int wi, .int hi, .int fo, .ref gi, .ref k1, .ref s1, .ref pi, .ref fa])), (gi, .inr (1, [.ref gia, .int 3])), (gia, .inl (cJ, 114, .inr (.inl gif))), (k1, .inr (1, [.ref k1a, .int (nI kn)])), (k1a, .inl (cJ, 114, .inr (.inl kf))), (s1, .inr (1, [.ref s1a, .int sn])), (s1a, .inl (cJ, 114, .inr (.inl sf))), (pi, .inr (1, [.ref pia, .int pin])), (pia, .inl (cJ, 114, .inr (.inl pif))), (fa, .inr (2, [.ref fas, .ref fat, .ref faa, .int fan])), (fas, .inl (cI, 17, .inl faS)), (fat, .inl (cI, 17, .inl faT)), (faa, .inl (cI, 17, .inl faA))]) hD hS hA [0, 1, 2, 3, 4, 5, 6, 7, 8, 9, 10, 11, 12] rfl
        refine va_callv (va_runV (As := []) (rest := []) ⟨hx, hb, hml, hown, hts⟩ (c_PC_layOnPicture l dC dI cJ cI H.size ob wi hi fo gi gia 3 gif k1 k1a kn kf s1 s1a sn sf pi pia pin pif fa fas fat faa fan faS faT faA (by rw [hn]; exact (pu_ring_most fo wi hi gif).2.2.2.2.2) (fun c hc => by have := (cb_c3 hfit hG hn ha c hc).2.1 (by decide); omega)) (cwV 0 hts (gd_V wd_154 wd_155 wd_9 wd_33 wd_156) rfl rfl rfl (by decide +kernel) ⟨Nat.le_of_ble_eq_true rfl, Nat.le_of_ble_eq_true rfl⟩) ⟨fb_rw, va_recv hK hPc (ci := 0) (q0 := 0) rfl rfl, pre_rw hK hN hPc hDc⟩ rfl rfl hl.1 rfl (lv_room (Nat.le_of_ble_eq_true rfl)) d_PC_cut_51 ⟨Nat.le_of_ble_eq_true rfl, Nat.le_of_ble_eq_true rfl⟩) hS (fun q _ h => hFc q h) hFc (fun u t H locs ht hvm hw hB hz1 hk1 hS => ?_)
        obtain ⟨hP1, hD1⟩ := hB
        rw [ht] at hP1
        obtain ⟨hP, hD⟩ := va_join (wr := []) (w1 := [(ob, .inr (0, [.int wi, .int hi, .int fo, .ref gi, .ref k1, .ref s1, .ref pi, .ref fa])), (gi, .inr (1, [.ref gia, .int 3])), (gia, .inl (cJ, 114, .inr (.inl gif))), (k1, .inr (1, [.ref k1a, .int (nI kn)])), (k1a, .inl (cJ, 114, .inr (.inl kf))), (s1, .inr (1, [.ref s1a, .int sn])), (s1a, .inl (cJ, 114, .inr (.inl sf))), (pi, .inr (1, [.ref pia, .int (nI kn)])), (pia, .inl (cJ, 114, .inr (.inl (pu_pics fo wi hi kf pif kn)))), (fa, .inr (2, [.ref fas, .ref fat, .ref faa, .int fan])), (fas, .inl (cI, 17, .inl faS)), (fat, .inl (cI, 17, .inl faT)), (faa, .inl (cI, 17, .inl faA))]) hP hD [0, 1, 2, 3, 4, 5, 6, 7, 8, 9, 10, 11, 12] [] rfl rfl (by decide) (by decide) hk1 hFc hP1 hD1
        have hP : va_P (dC, dI) cls4 [(ob, .inr (0, [.int wi, .int hi, .int fo, .ref gi, .ref k1, .ref s1, .ref pi, .ref fa])), (gi, .inr (1, [.ref gia, .int 3])), (gia, .inl (cJ, 114, .inr (.inl gif))), (k1, .inr (1, [.ref k1a, .int (nI kn)])), (k1a, .inl (cJ, 114, .inr (.inl kf))), (s1, .inr (1, [.ref s1a, .int sn])), (s1a, .inl (cJ, 114, .inr (.inl sf))), (pi, .inr (1, [.ref pia, .int (nI kn)])), (pia, .inl (cJ, 114, .inr (.inl (pu_pics fo wi hi kf pif kn)))), (fa, .inr (2, [.ref fas, .ref fat, .ref faa, .int fan])), (fas, .inl (cI, 17, .inl faS)), (fat, .inl (cI, 17, .inl faT)), (faa, .inl (cI, 17, .inl faA))] H := hP
        have hD : va_D A [(ob, .inr (0, [.int wi, .int hi, .int fo, .ref gi, .ref k1, .ref s1, .ref pi, .ref fa])), (gi, .inr (1, [.ref gia, .int 3])), (gia, .inl (cJ, 114, .inr (.inl gif))), (k1, .inr (1, [.ref k1a, .int (nI kn)])), (k1a, .inl (cJ, 114, .inr (.inl kf))), (s1, .inr (1, [.ref s1a, .int sn])), (s1a, .inl (cJ, 114, .inr (.inl sf))), (pi, .inr (1, [.ref pia, .int (nI kn)])), (pia, .inl (cJ, 114, .inr (.inl (pu_pics fo wi hi kf pif kn)))), (fa, .inr (2, [.ref fas, .ref fat, .ref faa, .int fan])), (fas, .inl (cI, 17, .inl faS)), (fat, .inl (cI, 17, .inl faT)), (faa, .inl (cI, 17, .inl faA))] := hD
        refine lv_aload_n hx hb d_PC_cut_54 rfl (lv_at hl 0 rfl) ?_
        refine lv_iload_n hx hb d_PC_cut_55 rfl (lv_at hl 1 rfl) ?_
        have hPc := hP
        have hDc := hD.sub (ws' := [(ob, .inr (0, [.int wi, .int hi, .int fo, .ref gi, .ref k1, .ref s1, .ref pi, .ref fa])), (gi, .inr (1, [.ref gia, .int 3])), (gia, .inl (cJ, 114, .inr (.inl gif))), (k1, .inr (1, [.ref k1a, .int (nI kn)])), (k1a, .inl (cJ, 114, .inr (.inl kf))), (s1, .inr (1, [.ref s1a, .int sn])), (s1a, .inl (cJ, 114, .inr (.inl sf))), (pi, .inr (1, [.ref pia, .int (nI kn)])), (pia, .inl (cJ, 114, .inr (.inl (pu_pics fo wi hi kf pif kn)))), (fa, .inr (2, [.ref fas, .ref fat, .ref faa, .int fan])), (fas, .inl (cI, 17, .inl faS)), (fat, .inl (cI, 17, .inl faT)), (faa, .inl (cI, 17, .inl faA))]) [0, 1, 2, 3, 4, 5, 6, 7, 8, 9, 10, 11, 12] (by decide) rfl
        have hFc := va_free (wc := [(ob, .inr (0, [.int wi, .int hi, .int fo, .ref gi, .ref k1, .ref s1, .ref pi, .ref fa])), (gi, .inr (1, [.ref gia, .int 3])), (gia, .inl (cJ, 114, .inr (.inl gif))), (k1, .inr (1, [.ref k1a, .int (nI kn)])), (k1a, .inl (cJ, 114, .inr (.inl kf))), (s1, .inr (1, [.ref s1a, .int sn])), (s1a, .inl (cJ, 114, .inr (.inl sf))), (pi, .inr (1, [.ref pia, .int (nI kn)])), (pia, .inl (cJ, 114, .inr (.inl (pu_pics fo wi hi kf pif kn)))), (fa, .inr (2, [.ref fas, .ref fat, .ref faa, .int fan])), (fas, .inl (cI, 17, .inl faS)), (fat, .inl (cI, 17, .inl faT)), (faa, .inl (cI, 17, .inl faA))]) hD hS hA [0, 1, 2, 3, 4, 5, 6, 7, 8, 9, 10, 11, 12] rfl
        refine va_callv (va_runV (As := [.int bo]) (rest := []) ⟨hx, hb, hml, hown, hts⟩ (c_PC_divide l dC dI cJ cI H.size ob wi hi fo gi gia 3 gif k1 k1a (nI kn) kf s1 s1a sn sf pi pia kn (pu_pics fo wi hi kf pif kn) fa fas fat faa fan faS faT faA bo (by rw [hn]; exact (pu_ring_most fo wi hi gif).2.2.2.2.2)) (cwV 1 hts (gd_V wd_160 wd_161 wd_10 wd_33 wd_162) rfl rfl rfl (by decide +kernel) ⟨Nat.le_of_ble_eq_true rfl, Nat.le_of_ble_eq_true rfl⟩) ⟨fb_rw, va_recv hK hPc (ci := 0) (q0 := 0) rfl rfl, pre_rw hK hN hPc hDc⟩ rfl rfl hl.1 rfl (lv_room (Nat.le_of_ble_eq_true rfl)) d_PC_cut_56 ⟨Nat.le_of_ble_eq_true rfl, Nat.le_of_ble_eq_true rfl⟩) hS (fun q _ h => hFc q h) hFc (fun u t H locs ht hvm hw hB hz1 hk1 hS => ?_)
        obtain ⟨hP1, hD1⟩ := hB
        rw [ht] at hP1
        obtain ⟨hP, hD⟩ := va_join (wr := []) (w1 := [(ob, .inr (0, [.int wi, .int hi, .int fo, .ref gi, .ref k1, .ref s1, .ref pi, .ref fa])), (gi, .inr (1, [.ref gia, .int 3])), (gia, .inl (cJ, 114, .inr (.inl gif))), (k1, .inr (1, [.ref k1a, .int (nI kn)])), (k1a, .inl (cJ, 114, .inr (.inl kf))), (s1, .inr (1, [.ref s1a, .int sn])), (s1a, .inl (cJ, 114, .inr (.inl sf))), (pi, .inr (1, [.ref pia, .int (nI kn)])), (pia, .inl (cJ, 114, .inr (.inl (pu_pics fo wi hi kf pif kn)))), (fa, .inr (2, [.ref fas, .ref fat, .ref faa, .int (nI (pu_fan bo (pu_pics fo wi hi kf pif kn) faS faT faA (kn - 2)).1)])), (fas, .inl (cI, 17, .inl ((pu_fan bo (pu_pics fo wi hi kf pif kn) faS faT faA (kn - 2)).2.1))), (fat, .inl (cI, 17, .inl ((pu_fan bo (pu_pics fo wi hi kf pif kn) faS faT faA (kn - 2)).2.2.1))), (faa, .inl (cI, 17, .inl ((pu_fan bo (pu_pics fo wi hi kf pif kn) faS faT faA (kn - 2)).2.2.2)))]) hP hD [0, 1, 2, 3, 4, 5, 6, 7, 8, 9, 10, 11, 12] [] rfl rfl (by decide) (by decide) hk1 hFc hP1 hD1
        have hP : va_P (dC, dI) cls4 [(ob, .inr (0, [.int wi, .int hi, .int fo, .ref gi, .ref k1, .ref s1, .ref pi, .ref fa])), (gi, .inr (1, [.ref gia, .int 3])), (gia, .inl (cJ, 114, .inr (.inl gif))), (k1, .inr (1, [.ref k1a, .int (nI kn)])), (k1a, .inl (cJ, 114, .inr (.inl kf))), (s1, .inr (1, [.ref s1a, .int sn])), (s1a, .inl (cJ, 114, .inr (.inl sf))), (pi, .inr (1, [.ref pia, .int (nI kn)])), (pia, .inl (cJ, 114, .inr (.inl (pu_pics fo wi hi kf pif kn)))), (fa, .inr (2, [.ref fas, .ref fat, .ref faa, .int (nI (pu_fan bo (pu_pics fo wi hi kf pif kn) faS faT faA (kn - 2)).1)])), (fas, .inl (cI, 17, .inl ((pu_fan bo (pu_pics fo wi hi kf pif kn) faS faT faA (kn - 2)).2.1))), (fat, .inl (cI, 17, .inl ((pu_fan bo (pu_pics fo wi hi kf pif kn) faS faT faA (kn - 2)).2.2.1))), (faa, .inl (cI, 17, .inl ((pu_fan bo (pu_pics fo wi hi kf pif kn) faS faT faA (kn - 2)).2.2.2)))] H := hP
        have hD : va_D A [(ob, .inr (0, [.int wi, .int hi, .int fo, .ref gi, .ref k1, .ref s1, .ref pi, .ref fa])), (gi, .inr (1, [.ref gia, .int 3])), (gia, .inl (cJ, 114, .inr (.inl gif))), (k1, .inr (1, [.ref k1a, .int (nI kn)])), (k1a, .inl (cJ, 114, .inr (.inl kf))), (s1, .inr (1, [.ref s1a, .int sn])), (s1a, .inl (cJ, 114, .inr (.inl sf))), (pi, .inr (1, [.ref pia, .int (nI kn)])), (pia, .inl (cJ, 114, .inr (.inl (pu_pics fo wi hi kf pif kn)))), (fa, .inr (2, [.ref fas, .ref fat, .ref faa, .int (nI (pu_fan bo (pu_pics fo wi hi kf pif kn) faS faT faA (kn - 2)).1)])), (fas, .inl (cI, 17, .inl ((pu_fan bo (pu_pics fo wi hi kf pif kn) faS faT faA (kn - 2)).2.1))), (fat, .inl (cI, 17, .inl ((pu_fan bo (pu_pics fo wi hi kf pif kn) faS faT faA (kn - 2)).2.2.1))), (faa, .inl (cI, 17, .inl ((pu_fan bo (pu_pics fo wi hi kf pif kn) faS faT faA (kn - 2)).2.2.2)))] := hD
        refine lv_aload_n hx hb d_PC_cut_59 rfl (lv_at hl 0 rfl) ?_
        refine va_get (D := (dC, dI)) (ci := 0) (v := .ref fa) (C := R_PC) (T := F_PC) (N := 8) hx hb hts (fun w h => mw (i_PC w h)) hown hK hP 0 rfl rfl 7 (by decide) (hts _ (mw wd_88)) (fun _ h9 => h9) rfl d_PC_cut_60 ?_
        refine va_getN (D := (dC, dI)) (ci := 2) (v := .int (nI (pu_fan bo (pu_pics fo wi hi kf pif kn) faS faT faA (kn - 2)).1)) (C := R_Fa) (T := F_Fa) (N := 4) hx hb hts (fun w h => mw (i_Fa w h)) hown hK hP 9 rfl rfl 3 (by decide) (va_Nw.use rfl (hN _ nw_5)) (fun _ h9 => h9) rfl d_PC_cut_63 ?_
        subst hn
        obtain ⟨e1, e2⟩ := cb_final (bo := bo) (N0 := pif) (S0 := faS) (T0 := faT) (A0 := faA) hfit hG ha
        rw [e1] at hP hD
        exact W.iret hx hb hr (fun t ht hW => ⟨⟨_, (), rfl, by rw [e1], _, _, _, _, _, _, _, _, _, _, _, _, by rw [ht]; exact hP, hD, e2⟩, hS.F ht⟩) hS.2.2 d_PC_cut_66
      · have c_1 : ¬ (nI 5 ≤ nI s9) := c_1
        rw [nI_leI (by omega) (by omega)] at c_1
        have c_1 : ¬ (5 ≤ s9) := c_1
        refine lv_aload_n hx hb d_PC_cut_39 rfl (lv_at hl 0 rfl) ?_
        refine lv_iload_n hx hb d_PC_cut_40 rfl (lv_at hl 2 rfl) ?_
        have hPc := hP
        have hDc := hD.sub (ws' := [(ob, .inr (0, [.int wi, .int hi, .int fo, .ref gi, .ref k1, .ref s1, .ref pi, .ref fa])), (gi, .inr (1, [.ref gia, .int 3])), (gia, .inl (cJ, 114, .inr (.inl gif))), (k1, .inr (1, [.ref k1a, .int (nI kn)])), (k1a, .inl (cJ, 114, .inr (.inl kf))), (s1, .inr (1, [.ref s1a, .int sn])), (s1a, .inl (cJ, 114, .inr (.inl sf))), (pi, .inr (1, [.ref pia, .int pin])), (pia, .inl (cJ, 114, .inr (.inl pif))), (fa, .inr (2, [.ref fas, .ref fat, .ref faa, .int fan])), (fas, .inl (cI, 17, .inl faS)), (fat, .inl (cI, 17, .inl faT)), (faa, .inl (cI, 17, .inl faA))]) [0, 1, 2, 3, 4, 5, 6, 7, 8, 9, 10, 11, 12] (by decide) rfl
        have hFc := va_free (wc := [(ob, .inr (0, [.int wi, .int hi, .int fo, .ref gi, .ref k1, .ref s1, .ref pi, .ref fa])), (gi, .inr (1, [.ref gia, .int 3])), (gia, .inl (cJ, 114, .inr (.inl gif))), (k1, .inr (1, [.ref k1a, .int (nI kn)])), (k1a, .inl (cJ, 114, .inr (.inl kf))), (s1, .inr (1, [.ref s1a, .int sn])), (s1a, .inl (cJ, 114, .inr (.inl sf))), (pi, .inr (1, [.ref pia, .int pin])), (pia, .inl (cJ, 114, .inr (.inl pif))), (fa, .inr (2, [.ref fas, .ref fat, .ref faa, .int fan])), (fas, .inl (cI, 17, .inl faS)), (fat, .inl (cI, 17, .inl faT)), (faa, .inl (cI, 17, .inl faA))]) hD hS hA [0, 1, 2, 3, 4, 5, 6, 7, 8, 9, 10, 11, 12] rfl
        refine va_callv (va_runV (As := [.int (nI s9)]) (rest := []) ⟨hx, hb, hml, hown, hts⟩ (c_PC_cutBySide l dC dI cJ cI H.size ob wi hi fo gi gia 3 gif k1 k1a kn kf s1 s1a sn sf pi pia pin pif fa fas fat faa fan faS faT faA s9 (by rw [hn]; exact (pu_ring_le (by omega)).1) (by omega) hfit (fun c hc => (cb_c3 hfit hG hn ha c hc).1)) (cwV 1 hts (gd_V wd_138 wd_139 wd_6 wd_33 wd_140) rfl rfl rfl (by decide +kernel) ⟨Nat.le_of_ble_eq_true rfl, Nat.le_of_ble_eq_true rfl⟩) ⟨fb_rw, va_recv hK hPc (ci := 0) (q0 := 0) rfl rfl, pre_rw hK hN hPc hDc⟩ rfl rfl hl.1 rfl (lv_room (Nat.le_of_ble_eq_true rfl)) d_PC_cut_41 ⟨Nat.le_of_ble_eq_true rfl, Nat.le_of_ble_eq_true rfl⟩) hS (fun q _ h => hFc q h) hFc (fun u t H locs ht hvm hw hB hz1 hk1 hS => ?_)
        obtain ⟨hP1, hD1⟩ := hB
        rw [ht] at hP1
        obtain ⟨hP, hD⟩ := va_join (wr := []) (w1 := [(ob, .inr (0, [.int wi, .int hi, .int fo, .ref gi, .ref s1, .ref k1, .ref pi, .ref fa])), (gi, .inr (1, [.ref gia, .int 3])), (gia, .inl (cJ, 114, .inr (.inl gif))), (k1, .inr (1, [.ref k1a, .int (nI kn)])), (k1a, .inl (cJ, 114, .inr (.inl kf))), (s1, .inr (1, [.ref s1a, .int (nI (pu_cs fo wi hi s9 kn kf sf kn).1)])), (s1a, .inl (cJ, 114, .inr (.inl ((pu_cs fo wi hi s9 kn kf sf kn).2)))), (pi, .inr (1, [.ref pia, .int pin])), (pia, .inl (cJ, 114, .inr (.inl pif))), (fa, .inr (2, [.ref fas, .ref fat, .ref faa, .int fan])), (fas, .inl (cI, 17, .inl faS)), (fat, .inl (cI, 17, .inl faT)), (faa, .inl (cI, 17, .inl faA))]) hP hD [0, 1, 2, 3, 4, 5, 6, 7, 8, 9, 10, 11, 12] [] rfl rfl (by decide) (by decide) hk1 hFc hP1 hD1
        have hP : va_P (dC, dI) cls4 [(ob, .inr (0, [.int wi, .int hi, .int fo, .ref gi, .ref s1, .ref k1, .ref pi, .ref fa])), (gi, .inr (1, [.ref gia, .int 3])), (gia, .inl (cJ, 114, .inr (.inl gif))), (k1, .inr (1, [.ref k1a, .int (nI kn)])), (k1a, .inl (cJ, 114, .inr (.inl kf))), (s1, .inr (1, [.ref s1a, .int (nI (pu_cs fo wi hi s9 kn kf sf kn).1)])), (s1a, .inl (cJ, 114, .inr (.inl ((pu_cs fo wi hi s9 kn kf sf kn).2)))), (pi, .inr (1, [.ref pia, .int pin])), (pia, .inl (cJ, 114, .inr (.inl pif))), (fa, .inr (2, [.ref fas, .ref fat, .ref faa, .int fan])), (fas, .inl (cI, 17, .inl faS)), (fat, .inl (cI, 17, .inl faT)), (faa, .inl (cI, 17, .inl faA))] H := hP
        have hD : va_D A [(ob, .inr (0, [.int wi, .int hi, .int fo, .ref gi, .ref s1, .ref k1, .ref pi, .ref fa])), (gi, .inr (1, [.ref gia, .int 3])), (gia, .inl (cJ, 114, .inr (.inl gif))), (k1, .inr (1, [.ref k1a, .int (nI kn)])), (k1a, .inl (cJ, 114, .inr (.inl kf))), (s1, .inr (1, [.ref s1a, .int (nI (pu_cs fo wi hi s9 kn kf sf kn).1)])), (s1a, .inl (cJ, 114, .inr (.inl ((pu_cs fo wi hi s9 kn kf sf kn).2)))), (pi, .inr (1, [.ref pia, .int pin])), (pia, .inl (cJ, 114, .inr (.inl pif))), (fa, .inr (2, [.ref fas, .ref fat, .ref faa, .int fan])), (fas, .inl (cI, 17, .inl faS)), (fat, .inl (cI, 17, .inl faT)), (faa, .inl (cI, 17, .inl faA))] := hD
        refine lv_iinc (v := (nI (s9 + 1))) (lv' := [(2, .int (nI (s9 + 1))), (0, .ref ob), (1, .int bo)]) hx hb d_PC_cut_44 hl (k := 2) rfl (nI_1 s9) (by decide) rfl (fun ls hl => ?_)
        refine lv_goto (tgt := 34) hx hb d_PC_cut_47 (by decide) ?_
        have hnext := pu_ring_next (N0 := sf) hn ha
        exact ih (s9 + 1) s1 s1a k1 k1a (pu_cs fo wi hi s9 kn kf sf kn).1 (pu_cs fo wi hi s9 kn kf sf kn).2 (nI kn) kf (by omega) (by omega) hnext.1 hnext.2 _ _ (hP.sub [0, 1, 2, 5, 6, 3, 4, 7, 8, 9, 10, 11, 12] rfl) (hD.sub [0, 1, 2, 5, 6, 3, 4, 7, 8, 9, 10, 11, 12] (by decide) rfl) hS ls (lv_sub hl [1, 2, 0] rfl)
  refine lv_aload_n hx hb d_PC_cut_0 rfl (lv_at hl 0 rfl) ?_
  refine va_get (D := (dC, dI)) (ci := 0) (v := .ref ke) (C := R_PC) (T := F_PC) (N := 8) hx hb hts (fun w h => mw (i_PC w h)) hown hK hP 0 rfl rfl 4 (by decide) (hts _ (mw wd_85)) (fun _ h9 => h9) rfl d_PC_cut_1 ?_
  have hPc := hP.sub (ws' := [(ke, .inr (1, [.ref kea, .int ken])), (kea, .inl (cJ, 114, .inr (.inl kef)))]) [3, 4] rfl
  have hDc := hD.sub (ws' := [(ke, .inr (1, [.ref kea, .int ken])), (kea, .inl (cJ, 114, .inr (.inl kef)))]) [3, 4] (by decide) rfl
  have hFc := va_free (wc := [(ke, .inr (1, [.ref kea, .int ken])), (kea, .inl (cJ, 114, .inr (.inl kef)))]) hD hS hA [3, 4] rfl
  refine va_callv (va_runVN (As := []) (rest := []) ⟨hx, hb, hml, hown, hts⟩ (c_Ri_clear l dC dI cJ cI s.heap.size ke kea ken kef) (⟨va_cnB 0 hts (gd_0 wd_130) rfl rfl rfl (hN _ nw_8) (hts _ (mw wd_35)) (by decide +kernel) ⟨Nat.le_of_ble_eq_true rfl, Nat.le_of_ble_eq_true rfl⟩, (hts _ (mw wd_129)), (hts _ (mw wd_3))⟩) ⟨fb_rw, va_recv hK hPc (ci := 1) (q0 := 0) rfl rfl, pre_rw hK hN hPc hDc⟩ rfl rfl hl.1 rfl (lv_room (Nat.le_of_ble_eq_true rfl)) d_PC_cut_4 ⟨Nat.le_of_ble_eq_true rfl, Nat.le_of_ble_eq_true rfl⟩) hS (fun q _ h => hFc q h) hFc (fun u t H locs ht hvm hw hB hz1 hk1 hS => ?_)
  obtain ⟨hP1, hD1⟩ := hB
  rw [ht] at hP1
  obtain ⟨hP, hD⟩ := va_join (wr := [(ob, .inr (0, [.int wi, .int hi, .int fo, .ref gi, .ref ke, .ref sp, .ref pi, .ref fa])), (gi, .inr (1, [.ref gia, .int 3])), (gia, .inl (cJ, 114, .inr (.inl gif))), (sp, .inr (1, [.ref spa, .int spn])), (spa, .inl (cJ, 114, .inr (.inl spf))), (pi, .inr (1, [.ref pia, .int pin])), (pia, .inl (cJ, 114, .inr (.inl pif))), (fa, .inr (2, [.ref fas, .ref fat, .ref faa, .int fan])), (fas, .inl (cI, 17, .inl faS)), (fat, .inl (cI, 17, .inl faT)), (faa, .inl (cI, 17, .inl faA))]) (w1 := [(ke, .inr (1, [.ref kea, .int 0])), (kea, .inl (cJ, 114, .inr (.inl kef)))]) hP hD [3, 4] [0, 1, 2, 5, 6, 7, 8, 9, 10, 11, 12] rfl rfl (by decide) (by decide) hk1 hFc hP1 hD1
  have hP : va_P (dC, dI) cls4 [(ob, .inr (0, [.int wi, .int hi, .int fo, .ref gi, .ref ke, .ref sp, .ref pi, .ref fa])), (gi, .inr (1, [.ref gia, .int 3])), (gia, .inl (cJ, 114, .inr (.inl gif))), (ke, .inr (1, [.ref kea, .int 0])), (kea, .inl (cJ, 114, .inr (.inl kef))), (sp, .inr (1, [.ref spa, .int spn])), (spa, .inl (cJ, 114, .inr (.inl spf))), (pi, .inr (1, [.ref pia, .int pin])), (pia, .inl (cJ, 114, .inr (.inl pif))), (fa, .inr (2, [.ref fas, .ref fat, .ref faa, .int fan])), (fas, .inl (cI, 17, .inl faS)), (fat, .inl (cI, 17, .inl faT)), (faa, .inl (cI, 17, .inl faA))] H := hP.sub [0, 1, 2, 11, 12, 3, 4, 5, 6, 7, 8, 9, 10] rfl
  have hD : va_D A [(ob, .inr (0, [.int wi, .int hi, .int fo, .ref gi, .ref ke, .ref sp, .ref pi, .ref fa])), (gi, .inr (1, [.ref gia, .int 3])), (gia, .inl (cJ, 114, .inr (.inl gif))), (ke, .inr (1, [.ref kea, .int 0])), (kea, .inl (cJ, 114, .inr (.inl kef))), (sp, .inr (1, [.ref spa, .int spn])), (spa, .inl (cJ, 114, .inr (.inl spf))), (pi, .inr (1, [.ref pia, .int pin])), (pia, .inl (cJ, 114, .inr (.inl pif))), (fa, .inr (2, [.ref fas, .ref fat, .ref faa, .int fan])), (fas, .inl (cI, 17, .inl faS)), (fat, .inl (cI, 17, .inl faT)), (faa, .inl (cI, 17, .inl faA))] := hD.sub [0, 1, 2, 11, 12, 3, 4, 5, 6, 7, 8, 9, 10] (by decide) rfl
  refine lv_iconst (v := 0) hx hb d_PC_cut_7 (by decide) ?_
  refine lv_istore_n (lv' := [(2, .int 0), (0, .ref ob), (1, .int bo)]) hx hb d_PC_cut_8 rfl hl (by decide) rfl (fun ls hl => ?_)
  refine lv_iload_n hx hb d_PC_cut_9 rfl (lv_at hl 0 rfl) ?_
  refine lv_iconst (v := 3) hx hb d_PC_cut_10 (by decide) ?_
  refine lv_icmp_ge (tgt := 32) hx hb d_PC_cut_11 (by decide) (fun c_1 => absurd c_1 (by decide)) (fun _ => ?_)
  refine lv_aload_n hx hb d_PC_cut_14 rfl (lv_at hl 1 rfl) ?_
  refine va_get (D := (dC, dI)) (ci := 0) (v := .ref ke) (C := R_PC) (T := F_PC) (N := 8) hx hb hts (fun w h => mw (i_PC w h)) hown hK hP 0 rfl rfl 4 (by decide) (hts _ (mw wd_85)) (fun _ h9 => h9) rfl d_PC_cut_15 ?_
  refine lv_aload_n hx hb d_PC_cut_18 rfl (lv_at hl 1 rfl) ?_
  refine va_get (D := (dC, dI)) (ci := 0) (v := .ref gi) (C := R_PC) (T := F_PC) (N := 8) hx hb hts (fun w h => mw (i_PC w h)) hown hK hP 0 rfl rfl 3 (by decide) (hts _ (mw wd_84)) (fun _ h9 => h9) rfl d_PC_cut_19 ?_
  refine lv_iload_n hx hb d_PC_cut_22 rfl (lv_at hl 0 rfl) ?_
  have hPc := hP.sub (ws' := [(ke, .inr (1, [.ref kea, .int 0])), (kea, .inl (cJ, 114, .inr (.inl kef))), (gi, .inr (1, [.ref gia, .int 3])), (gia, .inl (cJ, 114, .inr (.inl gif)))]) [3, 4, 1, 2] rfl
  have hDc := hD.sub (ws' := [(ke, .inr (1, [.ref kea, .int 0])), (kea, .inl (cJ, 114, .inr (.inl kef))), (gi, .inr (1, [.ref gia, .int 3])), (gia, .inl (cJ, 114, .inr (.inl gif)))]) [3, 4, 1, 2] (by decide) rfl
  have hFc := va_free (wc := [(ke, .inr (1, [.ref kea, .int 0])), (kea, .inl (cJ, 114, .inr (.inl kef))), (gi, .inr (1, [.ref gia, .int 3])), (gia, .inl (cJ, 114, .inr (.inl gif)))]) hD hS hA [3, 4, 1, 2] rfl
  refine va_callv (va_runVN (As := [.ref gi, .int (nI 0)]) (rest := []) ⟨hx, hb, hml, hown, hts⟩ (k_Ri_addCopy l dC dI cJ cI H.size ke kea 0 kef gi gia 3 gif 0 (by omega) (by omega) (by omega)) (⟨va_cnB 2 hts (gd_0 wd_132) rfl rfl rfl (hN _ nw_9) (hts _ (mw wd_35)) (by decide +kernel) ⟨Nat.le_of_ble_eq_true rfl, Nat.le_of_ble_eq_true rfl⟩, (hts _ (mw wd_131)), (hts _ (mw wd_4))⟩) ⟨fb_rw, va_recv hK hPc (ci := 1) (q0 := 0) rfl rfl, pre_rw hK hN hPc hDc⟩ rfl rfl hl.1 rfl (lv_room (Nat.le_of_ble_eq_true rfl)) d_PC_cut_23 ⟨Nat.le_of_ble_eq_true rfl, Nat.le_of_ble_eq_true rfl⟩) hS (fun q _ h => hFc q h) hFc (fun u t H locs ht hvm hw hB hz1 hk1 hS => ?_)
  obtain ⟨hP1, hD1⟩ := hB
  rw [ht] at hP1
  obtain ⟨hP, hD⟩ := va_join (wr := [(ob, .inr (0, [.int wi, .int hi, .int fo, .ref gi, .ref ke, .ref sp, .ref pi, .ref fa])), (sp, .inr (1, [.ref spa, .int spn])), (spa, .inl (cJ, 114, .inr (.inl spf))), (pi, .inr (1, [.ref pia, .int pin])), (pia, .inl (cJ, 114, .inr (.inl pif))), (fa, .inr (2, [.ref fas, .ref fat, .ref faa, .int fan])), (fas, .inl (cI, 17, .inl faS)), (fat, .inl (cI, 17, .inl faT)), (faa, .inl (cI, 17, .inl faA))]) (w1 := [(ke, .inr (1, [.ref kea, .int (nI (0 + 1))])), (kea, .inl (cJ, 114, .inr (.inl (pu_put kef 0 (fun j => gif (6 * 0 + j)))))), (gi, .inr (1, [.ref gia, .int (nI 3)])), (gia, .inl (cJ, 114, .inr (.inl gif)))]) hP hD [3, 4, 1, 2] [0, 5, 6, 7, 8, 9, 10, 11, 12] rfl rfl (by decide) (by decide) hk1 hFc hP1 hD1
  have hP : va_P (dC, dI) cls4 [(ob, .inr (0, [.int wi, .int hi, .int fo, .ref gi, .ref ke, .ref sp, .ref pi, .ref fa])), (gi, .inr (1, [.ref gia, .int (nI 3)])), (gia, .inl (cJ, 114, .inr (.inl gif))), (ke, .inr (1, [.ref kea, .int (nI (0 + 1))])), (kea, .inl (cJ, 114, .inr (.inl (pu_put kef 0 (fun j => gif (6 * 0 + j)))))), (sp, .inr (1, [.ref spa, .int spn])), (spa, .inl (cJ, 114, .inr (.inl spf))), (pi, .inr (1, [.ref pia, .int pin])), (pia, .inl (cJ, 114, .inr (.inl pif))), (fa, .inr (2, [.ref fas, .ref fat, .ref faa, .int fan])), (fas, .inl (cI, 17, .inl faS)), (fat, .inl (cI, 17, .inl faT)), (faa, .inl (cI, 17, .inl faA))] H := hP.sub [0, 11, 12, 9, 10, 1, 2, 3, 4, 5, 6, 7, 8] rfl
  have hD : va_D A [(ob, .inr (0, [.int wi, .int hi, .int fo, .ref gi, .ref ke, .ref sp, .ref pi, .ref fa])), (gi, .inr (1, [.ref gia, .int (nI 3)])), (gia, .inl (cJ, 114, .inr (.inl gif))), (ke, .inr (1, [.ref kea, .int (nI (0 + 1))])), (kea, .inl (cJ, 114, .inr (.inl (pu_put kef 0 (fun j => gif (6 * 0 + j)))))), (sp, .inr (1, [.ref spa, .int spn])), (spa, .inl (cJ, 114, .inr (.inl spf))), (pi, .inr (1, [.ref pia, .int pin])), (pia, .inl (cJ, 114, .inr (.inl pif))), (fa, .inr (2, [.ref fas, .ref fat, .ref faa, .int fan])), (fas, .inl (cI, 17, .inl faS)), (fat, .inl (cI, 17, .inl faT)), (faa, .inl (cI, 17, .inl faA))] := hD.sub [0, 11, 12, 9, 10, 1, 2, 3, 4, 5, 6, 7, 8] (by decide) rfl
  refine lv_iinc (v := 1) (lv' := [(2, .int 1), (0, .ref ob), (1, .int bo)]) hx hb d_PC_cut_26 hl (k := 0) rfl (by decide) (by decide) rfl (fun ls hl => ?_)
  refine lv_goto (tgt := 9) hx hb d_PC_cut_29 (by decide) ?_
  refine lv_iload_n hx hb d_PC_cut_9 rfl (lv_at hl 0 rfl) ?_
  refine lv_iconst (v := 3) hx hb d_PC_cut_10 (by decide) ?_
  refine lv_icmp_ge (tgt := 32) hx hb d_PC_cut_11 (by decide) (fun c_2 => absurd c_2 (by decide)) (fun _ => ?_)
  refine lv_aload_n hx hb d_PC_cut_14 rfl (lv_at hl 1 rfl) ?_
  refine va_get (D := (dC, dI)) (ci := 0) (v := .ref ke) (C := R_PC) (T := F_PC) (N := 8) hx hb hts (fun w h => mw (i_PC w h)) hown hK hP 0 rfl rfl 4 (by decide) (hts _ (mw wd_85)) (fun _ h9 => h9) rfl d_PC_cut_15 ?_
  refine lv_aload_n hx hb d_PC_cut_18 rfl (lv_at hl 1 rfl) ?_
  refine va_get (D := (dC, dI)) (ci := 0) (v := .ref gi) (C := R_PC) (T := F_PC) (N := 8) hx hb hts (fun w h => mw (i_PC w h)) hown hK hP 0 rfl rfl 3 (by decide) (hts _ (mw wd_84)) (fun _ h9 => h9) rfl d_PC_cut_19 ?_
  refine lv_iload_n hx hb d_PC_cut_22 rfl (lv_at hl 0 rfl) ?_
  have hPc := hP.sub (ws' := [(ke, .inr (1, [.ref kea, .int (nI (0 + 1))])), (kea, .inl (cJ, 114, .inr (.inl (pu_put kef 0 (fun j => gif (6 * 0 + j)))))), (gi, .inr (1, [.ref gia, .int (nI 3)])), (gia, .inl (cJ, 114, .inr (.inl gif)))]) [3, 4, 1, 2] rfl
  have hDc := hD.sub (ws' := [(ke, .inr (1, [.ref kea, .int (nI (0 + 1))])), (kea, .inl (cJ, 114, .inr (.inl (pu_put kef 0 (fun j => gif (6 * 0 + j)))))), (gi, .inr (1, [.ref gia, .int (nI 3)])), (gia, .inl (cJ, 114, .inr (.inl gif)))]) [3, 4, 1, 2] (by decide) rfl
  have hFc := va_free (wc := [(ke, .inr (1, [.ref kea, .int (nI (0 + 1))])), (kea, .inl (cJ, 114, .inr (.inl (pu_put kef 0 (fun j => gif (6 * 0 + j)))))), (gi, .inr (1, [.ref gia, .int (nI 3)])), (gia, .inl (cJ, 114, .inr (.inl gif)))]) hD hS hA [3, 4, 1, 2] rfl
  refine va_callv (va_runVN (As := [.ref gi, .int (nI 1)]) (rest := []) ⟨hx, hb, hml, hown, hts⟩ (k_Ri_addCopy l dC dI cJ cI H.size ke kea (0 + 1) (pu_put kef 0 (fun j => gif (6 * 0 + j))) gi gia 3 gif 1 (by omega) (by omega) (by omega)) (⟨va_cnB 2 hts (gd_0 wd_132) rfl rfl rfl (hN _ nw_9) (hts _ (mw wd_35)) (by decide +kernel) ⟨Nat.le_of_ble_eq_true rfl, Nat.le_of_ble_eq_true rfl⟩, (hts _ (mw wd_131)), (hts _ (mw wd_4))⟩) ⟨fb_rw, va_recv hK hPc (ci := 1) (q0 := 0) rfl rfl, pre_rw hK hN hPc hDc⟩ rfl rfl hl.1 rfl (lv_room (Nat.le_of_ble_eq_true rfl)) d_PC_cut_23 ⟨Nat.le_of_ble_eq_true rfl, Nat.le_of_ble_eq_true rfl⟩) hS (fun q _ h => hFc q h) hFc (fun u t H locs ht hvm hw hB hz1 hk1 hS => ?_)
  obtain ⟨hP1, hD1⟩ := hB
  rw [ht] at hP1
  obtain ⟨hP, hD⟩ := va_join (wr := [(ob, .inr (0, [.int wi, .int hi, .int fo, .ref gi, .ref ke, .ref sp, .ref pi, .ref fa])), (sp, .inr (1, [.ref spa, .int spn])), (spa, .inl (cJ, 114, .inr (.inl spf))), (pi, .inr (1, [.ref pia, .int pin])), (pia, .inl (cJ, 114, .inr (.inl pif))), (fa, .inr (2, [.ref fas, .ref fat, .ref faa, .int fan])), (fas, .inl (cI, 17, .inl faS)), (fat, .inl (cI, 17, .inl faT)), (faa, .inl (cI, 17, .inl faA))]) (w1 := [(ke, .inr (1, [.ref kea, .int (nI ((0 + 1) + 1))])), (kea, .inl (cJ, 114, .inr (.inl (pu_put (pu_put kef 0 (fun j => gif (6 * 0 + j))) (0 + 1) (fun j => gif (6 * 1 + j)))))), (gi, .inr (1, [.ref gia, .int (nI 3)])), (gia, .inl (cJ, 114, .inr (.inl gif)))]) hP hD [3, 4, 1, 2] [0, 5, 6, 7, 8, 9, 10, 11, 12] rfl rfl (by decide) (by decide) hk1 hFc hP1 hD1
  have hP : va_P (dC, dI) cls4 [(ob, .inr (0, [.int wi, .int hi, .int fo, .ref gi, .ref ke, .ref sp, .ref pi, .ref fa])), (gi, .inr (1, [.ref gia, .int (nI 3)])), (gia, .inl (cJ, 114, .inr (.inl gif))), (ke, .inr (1, [.ref kea, .int (nI ((0 + 1) + 1))])), (kea, .inl (cJ, 114, .inr (.inl (pu_put (pu_put kef 0 (fun j => gif (6 * 0 + j))) (0 + 1) (fun j => gif (6 * 1 + j)))))), (sp, .inr (1, [.ref spa, .int spn])), (spa, .inl (cJ, 114, .inr (.inl spf))), (pi, .inr (1, [.ref pia, .int pin])), (pia, .inl (cJ, 114, .inr (.inl pif))), (fa, .inr (2, [.ref fas, .ref fat, .ref faa, .int fan])), (fas, .inl (cI, 17, .inl faS)), (fat, .inl (cI, 17, .inl faT)), (faa, .inl (cI, 17, .inl faA))] H := hP.sub [0, 11, 12, 9, 10, 1, 2, 3, 4, 5, 6, 7, 8] rfl
  have hD : va_D A [(ob, .inr (0, [.int wi, .int hi, .int fo, .ref gi, .ref ke, .ref sp, .ref pi, .ref fa])), (gi, .inr (1, [.ref gia, .int (nI 3)])), (gia, .inl (cJ, 114, .inr (.inl gif))), (ke, .inr (1, [.ref kea, .int (nI ((0 + 1) + 1))])), (kea, .inl (cJ, 114, .inr (.inl (pu_put (pu_put kef 0 (fun j => gif (6 * 0 + j))) (0 + 1) (fun j => gif (6 * 1 + j)))))), (sp, .inr (1, [.ref spa, .int spn])), (spa, .inl (cJ, 114, .inr (.inl spf))), (pi, .inr (1, [.ref pia, .int pin])), (pia, .inl (cJ, 114, .inr (.inl pif))), (fa, .inr (2, [.ref fas, .ref fat, .ref faa, .int fan])), (fas, .inl (cI, 17, .inl faS)), (fat, .inl (cI, 17, .inl faT)), (faa, .inl (cI, 17, .inl faA))] := hD.sub [0, 11, 12, 9, 10, 1, 2, 3, 4, 5, 6, 7, 8] (by decide) rfl
  refine lv_iinc (v := 2) (lv' := [(2, .int 2), (0, .ref ob), (1, .int bo)]) hx hb d_PC_cut_26 hl (k := 0) rfl (by decide) (by decide) rfl (fun ls hl => ?_)
  refine lv_goto (tgt := 9) hx hb d_PC_cut_29 (by decide) ?_
  refine lv_iload_n hx hb d_PC_cut_9 rfl (lv_at hl 0 rfl) ?_
  refine lv_iconst (v := 3) hx hb d_PC_cut_10 (by decide) ?_
  refine lv_icmp_ge (tgt := 32) hx hb d_PC_cut_11 (by decide) (fun c_3 => absurd c_3 (by decide)) (fun _ => ?_)
  refine lv_aload_n hx hb d_PC_cut_14 rfl (lv_at hl 1 rfl) ?_
  refine va_get (D := (dC, dI)) (ci := 0) (v := .ref ke) (C := R_PC) (T := F_PC) (N := 8) hx hb hts (fun w h => mw (i_PC w h)) hown hK hP 0 rfl rfl 4 (by decide) (hts _ (mw wd_85)) (fun _ h9 => h9) rfl d_PC_cut_15 ?_
  refine lv_aload_n hx hb d_PC_cut_18 rfl (lv_at hl 1 rfl) ?_
  refine va_get (D := (dC, dI)) (ci := 0) (v := .ref gi) (C := R_PC) (T := F_PC) (N := 8) hx hb hts (fun w h => mw (i_PC w h)) hown hK hP 0 rfl rfl 3 (by decide) (hts _ (mw wd_84)) (fun _ h9 => h9) rfl d_PC_cut_19 ?_
  refine lv_iload_n hx hb d_PC_cut_22 rfl (lv_at hl 0 rfl) ?_
  have hPc := hP.sub (ws' := [(ke, .inr (1, [.ref kea, .int (nI ((0 + 1) + 1))])), (kea, .inl (cJ, 114, .inr (.inl (pu_put (pu_put kef 0 (fun j => gif (6 * 0 + j))) (0 + 1) (fun j => gif (6 * 1 + j)))))), (gi, .inr (1, [.ref gia, .int (nI 3)])), (gia, .inl (cJ, 114, .inr (.inl gif)))]) [3, 4, 1, 2] rfl
  have hDc := hD.sub (ws' := [(ke, .inr (1, [.ref kea, .int (nI ((0 + 1) + 1))])), (kea, .inl (cJ, 114, .inr (.inl (pu_put (pu_put kef 0 (fun j => gif (6 * 0 + j))) (0 + 1) (fun j => gif (6 * 1 + j)))))), (gi, .inr (1, [.ref gia, .int (nI 3)])), (gia, .inl (cJ, 114, .inr (.inl gif)))]) [3, 4, 1, 2] (by decide) rfl
  have hFc := va_free (wc := [(ke, .inr (1, [.ref kea, .int (nI ((0 + 1) + 1))])), (kea, .inl (cJ, 114, .inr (.inl (pu_put (pu_put kef 0 (fun j => gif (6 * 0 + j))) (0 + 1) (fun j => gif (6 * 1 + j)))))), (gi, .inr (1, [.ref gia, .int (nI 3)])), (gia, .inl (cJ, 114, .inr (.inl gif)))]) hD hS hA [3, 4, 1, 2] rfl
  refine va_callv (va_runVN (As := [.ref gi, .int (nI 2)]) (rest := []) ⟨hx, hb, hml, hown, hts⟩ (k_Ri_addCopy l dC dI cJ cI H.size ke kea ((0 + 1) + 1) (pu_put (pu_put kef 0 (fun j => gif (6 * 0 + j))) (0 + 1) (fun j => gif (6 * 1 + j))) gi gia 3 gif 2 (by omega) (by omega) (by omega)) (⟨va_cnB 2 hts (gd_0 wd_132) rfl rfl rfl (hN _ nw_9) (hts _ (mw wd_35)) (by decide +kernel) ⟨Nat.le_of_ble_eq_true rfl, Nat.le_of_ble_eq_true rfl⟩, (hts _ (mw wd_131)), (hts _ (mw wd_4))⟩) ⟨fb_rw, va_recv hK hPc (ci := 1) (q0 := 0) rfl rfl, pre_rw hK hN hPc hDc⟩ rfl rfl hl.1 rfl (lv_room (Nat.le_of_ble_eq_true rfl)) d_PC_cut_23 ⟨Nat.le_of_ble_eq_true rfl, Nat.le_of_ble_eq_true rfl⟩) hS (fun q _ h => hFc q h) hFc (fun u t H locs ht hvm hw hB hz1 hk1 hS => ?_)
  obtain ⟨hP1, hD1⟩ := hB
  rw [ht] at hP1
  obtain ⟨hP, hD⟩ := va_join (wr := [(ob, .inr (0, [.int wi, .int hi, .int fo, .ref gi, .ref ke, .ref sp, .ref pi, .ref fa])), (sp, .inr (1, [.ref spa, .int spn])), (spa, .inl (cJ, 114, .inr (.inl spf))), (pi, .inr (1, [.ref pia, .int pin])), (pia, .inl (cJ, 114, .inr (.inl pif))), (fa, .inr (2, [.ref fas, .ref fat, .ref faa, .int fan])), (fas, .inl (cI, 17, .inl faS)), (fat, .inl (cI, 17, .inl faT)), (faa, .inl (cI, 17, .inl faA))]) (w1 := [(ke, .inr (1, [.ref kea, .int (nI (((0 + 1) + 1) + 1))])), (kea, .inl (cJ, 114, .inr (.inl (pu_put (pu_put (pu_put kef 0 (fun j => gif (6 * 0 + j))) (0 + 1) (fun j => gif (6 * 1 + j))) ((0 + 1) + 1) (fun j => gif (6 * 2 + j)))))), (gi, .inr (1, [.ref gia, .int (nI 3)])), (gia, .inl (cJ, 114, .inr (.inl gif)))]) hP hD [3, 4, 1, 2] [0, 5, 6, 7, 8, 9, 10, 11, 12] rfl rfl (by decide) (by decide) hk1 hFc hP1 hD1
  have hP : va_P (dC, dI) cls4 [(ob, .inr (0, [.int wi, .int hi, .int fo, .ref gi, .ref ke, .ref sp, .ref pi, .ref fa])), (gi, .inr (1, [.ref gia, .int (nI 3)])), (gia, .inl (cJ, 114, .inr (.inl gif))), (ke, .inr (1, [.ref kea, .int (nI (((0 + 1) + 1) + 1))])), (kea, .inl (cJ, 114, .inr (.inl (pu_put (pu_put (pu_put kef 0 (fun j => gif (6 * 0 + j))) (0 + 1) (fun j => gif (6 * 1 + j))) ((0 + 1) + 1) (fun j => gif (6 * 2 + j)))))), (sp, .inr (1, [.ref spa, .int spn])), (spa, .inl (cJ, 114, .inr (.inl spf))), (pi, .inr (1, [.ref pia, .int pin])), (pia, .inl (cJ, 114, .inr (.inl pif))), (fa, .inr (2, [.ref fas, .ref fat, .ref faa, .int fan])), (fas, .inl (cI, 17, .inl faS)), (fat, .inl (cI, 17, .inl faT)), (faa, .inl (cI, 17, .inl faA))] H := hP.sub [0, 11, 12, 9, 10, 1, 2, 3, 4, 5, 6, 7, 8] rfl
  have hD : va_D A [(ob, .inr (0, [.int wi, .int hi, .int fo, .ref gi, .ref ke, .ref sp, .ref pi, .ref fa])), (gi, .inr (1, [.ref gia, .int (nI 3)])), (gia, .inl (cJ, 114, .inr (.inl gif))), (ke, .inr (1, [.ref kea, .int (nI (((0 + 1) + 1) + 1))])), (kea, .inl (cJ, 114, .inr (.inl (pu_put (pu_put (pu_put kef 0 (fun j => gif (6 * 0 + j))) (0 + 1) (fun j => gif (6 * 1 + j))) ((0 + 1) + 1) (fun j => gif (6 * 2 + j)))))), (sp, .inr (1, [.ref spa, .int spn])), (spa, .inl (cJ, 114, .inr (.inl spf))), (pi, .inr (1, [.ref pia, .int pin])), (pia, .inl (cJ, 114, .inr (.inl pif))), (fa, .inr (2, [.ref fas, .ref fat, .ref faa, .int fan])), (fas, .inl (cI, 17, .inl faS)), (fat, .inl (cI, 17, .inl faT)), (faa, .inl (cI, 17, .inl faA))] := hD.sub [0, 11, 12, 9, 10, 1, 2, 3, 4, 5, 6, 7, 8] (by decide) rfl
  refine lv_iinc (v := 3) (lv' := [(2, .int 3), (0, .ref ob), (1, .int bo)]) hx hb d_PC_cut_26 hl (k := 0) rfl (by decide) (by decide) rfl (fun ls hl => ?_)
  refine lv_goto (tgt := 9) hx hb d_PC_cut_29 (by decide) ?_
  refine lv_iload_n hx hb d_PC_cut_9 rfl (lv_at hl 0 rfl) ?_
  refine lv_iconst (v := 3) hx hb d_PC_cut_10 (by decide) ?_
  refine lv_icmp_ge (tgt := 32) hx hb d_PC_cut_11 (by decide) (fun _ => ?_) (fun c_4 => absurd (by decide) c_4)
  refine lv_iconst (v := 0) hx hb d_PC_cut_32 (by decide) ?_
  refine lv_istore_n (lv' := [(2, .int 0), (0, .ref ob), (1, .int bo)]) hx hb d_PC_cut_33 rfl hl (by decide) rfl (fun ls hl => ?_)
  exact LOOP 6 0 ke kea sp spa 3 _ spn spf (by omega) (by omega) rfl cb_start _ _ hP hD hS ls (lv_sub hl [1, 2, 0] rfl)
end
