abbrev R_B : String := "RationalOdes$Base"
def T_B : u_T := fun k => match k with
  | 0 => ("RationalOdes$Base", "rows", "[[J", true)
  | 1 => ("RationalOdes$Base", "leads", "[I", true)
  | 2 => ("RationalOdes$Base", "members", "[[J", true)
  | _ => ("RationalOdes$Base", "count", "I", false)
def ty_B : Nat → FieldType := fun k => match k with
  | 0 => .array (.array .long)
  | 1 => .array .int
  | 2 => .array (.array .long)
  | _ => .int
theorem nm_B : ∀ a, a < 4 → ∀ b, b < 4 → a ≠ b → (T_B a).2.1 ≠ (T_B b).2.1 := by decide +kernel
theorem tk_B : ∀ k, k < 4 → parseFieldDescriptor (T_B k).2.2.1 = some (ty_B k) := by decide +kernel
abbrev R_R : String := "RationalOdes$Roots"
def T_R : u_T := fun k => match k with
  | 0 => ("RationalOdes$Roots", "found", "[J", true)
  | 1 => ("RationalOdes$Roots", "count", "I", false)
  | 2 => ("RationalOdes$Roots", "whole", "[J", true)
  | 3 => ("RationalOdes$Roots", "part", "[J", true)
  | 4 => ("RationalOdes$Roots", "raised", "[J", true)
  | 5 => ("RationalOdes$Roots", "square", "[J", true)
  | 6 => ("RationalOdes$Roots", "one", "[J", true)
  | _ => ("RationalOdes$Roots", "two", "[J", true)
def ty_R : Nat → FieldType := fun k => match k with
  | 0 => .array .long
  | 1 => .int
  | 2 => .array .long
  | 3 => .array .long
  | 4 => .array .long
  | 5 => .array .long
  | 6 => .array .long
  | _ => .array .long
theorem nm_R : ∀ a, a < 8 → ∀ b, b < 8 → a ≠ b → (T_R a).2.1 ≠ (T_R b).2.1 := by decide +kernel
theorem tk_R : ∀ k, k < 8 → parseFieldDescriptor (T_R k).2.2.1 = some (ty_R k) := by decide +kernel
abbrev R_O : String := "RationalOdes"
def T_O : u_T := fun k => match k with
  | 0 => ("RationalOdes", "order", "I", true)
  | 1 => ("RationalOdes", "factors", "[[J", true)
  | 2 => ("RationalOdes", "other", "[[J", true)
  | 3 => ("RationalOdes", "atHand", "[J", true)
  | 4 => ("RationalOdes", "terms", "[J", true)
  | 5 => ("RationalOdes", "indicial", "[J", true)
  | 6 => ("RationalOdes", "roots", "LRationalOdes$Roots;", true)
  | 7 => ("RationalOdes", "base", "LRationalOdes$Base;", true)
  | _ => ("RationalOdes", "baseKnown", "Z", false)
def ty_O : Nat → FieldType := fun k => match k with
  | 0 => .int
  | 1 => .array (.array .long)
  | 2 => .array (.array .long)
  | 3 => .array .long
  | 4 => .array .long
  | 5 => .array .long
  | 6 => .object "RationalOdes$Roots"
  | 7 => .object "RationalOdes$Base"
  | _ => .boolean
theorem nm_O : ∀ a, a < 9 → ∀ b, b < 9 → a ≠ b → (T_O a).2.1 ≠ (T_O b).2.1 := by decide +kernel
theorem tk_O : ∀ k, k < 9 → parseFieldDescriptor (T_O k).2.2.1 = some (ty_O k) := by decide +kernel
abbrev R_M : String := "RationalOdesModel"
def T_M : u_T := fun k => match k with
  | 0 => ("RationalOdesModel", "code", "I", false)
  | 1 => ("RationalOdesModel", "order", "I", true)
  | 2 => ("RationalOdesModel", "factors", "[J", true)
  | 3 => ("RationalOdesModel", "hand", "[J", true)
  | 4 => ("RationalOdesModel", "made", "[J", true)
  | 5 => ("RationalOdesModel", "local", "[J", true)
  | 6 => ("RationalOdesModel", "level", "I", false)
  | 7 => ("RationalOdesModel", "table", "[J", true)
  | 8 => ("RationalOdesModel", "row", "[I", true)
  | 9 => ("RationalOdesModel", "base", "[J", true)
  | 10 => ("RationalOdesModel", "many", "I", false)
  | 11 => ("RationalOdesModel", "numbers", "[J", true)
  | _ => ("RationalOdesModel", "turned", "[J", true)
def ty_M : Nat → FieldType := fun k => match k with
  | 0 => .int
  | 1 => .int
  | 2 => .array .long
  | 3 => .array .long
  | 4 => .array .long
  | 5 => .array .long
  | 6 => .int
  | 7 => .array .long
  | 8 => .array .int
  | 9 => .array .long
  | 10 => .int
  | 11 => .array .long
  | _ => .array .long
theorem nm_M : ∀ a, a < 13 → ∀ b, b < 13 → a ≠ b → (T_M a).2.1 ≠ (T_M b).2.1 := by decide +kernel
theorem tk_M : ∀ k, k < 13 → parseFieldDescriptor (T_M k).2.2.1 = some (ty_M k) := by decide +kernel
abbrev R_L : String := "RationalOdesLaw"
def kb : List Cond := lw_tbl.filter goodWord
theorem kb_t {w : Cond} (h : w ∈ tables_1) (g : goodWord w = true) : w ∈ kb := List.mem_filter.mpr ⟨List.mem_append_right _ h, g⟩
theorem kb_s {w : Cond} (h : w ∈ k2_sels lw_privs) (g : goodWord w = true) : w ∈ kb := List.mem_filter.mpr ⟨List.mem_append_left _ h, g⟩
theorem kb_1 {w : Cond} (h : w ∈ tables_1_1) (g : goodWord w = true) : w ∈ kb := kb_t (List.mem_append_left _ h) g
theorem kb_2 {w : Cond} (h : w ∈ tables_1_2) (g : goodWord w = true) : w ∈ kb := kb_t (List.mem_append_right _ (List.mem_append_left _ h)) g
theorem kb_3 {w : Cond} (h : w ∈ tables_1_3) (g : goodWord w = true) : w ∈ kb := kb_t (List.mem_append_right _ (List.mem_append_right _ h)) g
theorem kb_all : ∀ w ∈ kb, w ∈ kb := fun _ h => h
theorem kb_c {w : Cond} {l : List Cond} (h : w ∈ kb) (t : ∀ w ∈ l, w ∈ kb) : ∀ w' ∈ w :: l, w' ∈ kb := fun w' h' => (List.mem_cons.mp h').elim (fun e => by rw [e]; exact h) (t w')
theorem kb_gi {l : List Cond} (h : ∀ w ∈ l, w ∈ kb) : GoodIn kb l := fun w hw => ⟨h w hw, good_of_word (List.mem_filter.mp (h w hw)).2⟩
theorem in_B : ∀ w ∈ u_ws R_B T_B 4, w ∈ kb := fun w h => kb_t ((by decide +kernel : ∀ w ∈ u_ws R_B T_B 4, w ∈ tables_1) w h) ((by decide +kernel : ∀ w ∈ u_ws R_B T_B 4, goodWord w = true) w h)
theorem in_R : ∀ w ∈ u_ws R_R T_R 8, w ∈ kb := fun w h => kb_t ((by decide +kernel : ∀ w ∈ u_ws R_R T_R 8, w ∈ tables_1) w h) ((by decide +kernel : ∀ w ∈ u_ws R_R T_R 8, goodWord w = true) w h)
theorem in_O : ∀ w ∈ u_ws R_O T_O 9, w ∈ kb := fun w h => kb_t ((by decide +kernel : ∀ w ∈ u_ws R_O T_O 9, w ∈ tables_1) w h) ((by decide +kernel : ∀ w ∈ u_ws R_O T_O 9, goodWord w = true) w h)
theorem in_M : ∀ w ∈ u_ws R_M T_M 13, w ∈ kb := fun w h => kb_t ((by decide +kernel : ∀ w ∈ u_ws R_M T_M 13, w ∈ tables_1) w h) ((by decide +kernel : ∀ w ∈ u_ws R_M T_M 13, goodWord w = true) w h)
def y_B_init : MethodName := ⟨R_B, "<init>", "()V"⟩
abbrev c_B_init : ByteArray := prog_2_method_1_code
def y_B_size : MethodName := ⟨R_B, "size", "()I"⟩
abbrev c_B_size : ByteArray := prog_2_method_2_code
def y_B_member : MethodName := ⟨R_B, "member", "(I)[J"⟩
abbrev c_B_member : ByteArray := prog_2_method_3_code
def y_B_enter : MethodName := ⟨R_B, "enter", "(IIJ)V"⟩
abbrev c_B_enter : ByteArray := prog_2_method_4_code
def y_B_solve : MethodName := ⟨R_B, "solve", "()V"⟩
abbrev c_B_solve : ByteArray := prog_2_method_5_code
def y_B_reduceRows : MethodName := ⟨R_B, "reduceRows", "()V"⟩
abbrev c_B_reduceRows : ByteArray := prog_2_method_6_code
def y_B_rowWith : MethodName := ⟨R_B, "rowWith", "(II)I"⟩
abbrev c_B_rowWith : ByteArray := prog_2_method_7_code
def y_B_swap : MethodName := ⟨R_B, "swap", "(II)V"⟩
abbrev c_B_swap : ByteArray := prog_2_method_8_code
def y_B_scaleRow : MethodName := ⟨R_B, "scaleRow", "(II)V"⟩
abbrev c_B_scaleRow : ByteArray := prog_2_method_9_code
def y_B_clearColumn : MethodName := ⟨R_B, "clearColumn", "(II)V"⟩
abbrev c_B_clearColumn : ByteArray := prog_2_method_10_code
def y_B_fillMember : MethodName := ⟨R_B, "fillMember", "([JI)V"⟩
abbrev c_B_fillMember : ByteArray := prog_2_method_11_code
def y_R_init : MethodName := ⟨R_R, "<init>", "()V"⟩
abbrev c_R_init : ByteArray := prog_3_method_1_code
def y_R_howMany : MethodName := ⟨R_R, "howMany", "()I"⟩
abbrev c_R_howMany : ByteArray := prog_3_method_2_code
def y_R_orNone : MethodName := ⟨R_R, "orNone", "(I)I"⟩
abbrev c_R_orNone : ByteArray := prog_3_method_3_code
def y_R_find : MethodName := ⟨R_R, "find", "([J)V"⟩
abbrev c_R_find : ByteArray := prog_3_method_4_code
def y_R_keepRootsOnce : MethodName := ⟨R_R, "keepRootsOnce", "()V"⟩
abbrev c_R_keepRootsOnce : ByteArray := prog_3_method_5_code
def y_R_oneRoot : MethodName := ⟨R_R, "oneRoot", "()J"⟩
abbrev c_R_oneRoot : ByteArray := prog_3_method_6_code
def y_R_insert : MethodName := ⟨R_R, "insert", "(J)V"⟩
abbrev c_R_insert : ByteArray := prog_3_method_7_code
def y_R_divideOut : MethodName := ⟨R_R, "divideOut", "(J)V"⟩
abbrev c_R_divideOut : ByteArray := prog_3_method_8_code
def y_R_raise : MethodName := ⟨R_R, "raise", "(JI[J)V"⟩
abbrev c_R_raise : ByteArray := prog_3_method_9_code
def y_R_squareRaised : MethodName := ⟨R_R, "squareRaised", "(I)V"⟩
abbrev c_R_squareRaised : ByteArray := prog_3_method_10_code
def y_R_timesLine : MethodName := ⟨R_R, "timesLine", "(J)V"⟩
abbrev c_R_timesLine : ByteArray := prog_3_method_11_code
def y_R_commonWithRaised : MethodName := ⟨R_R, "commonWithRaised", "([J)[J"⟩
abbrev c_R_commonWithRaised : ByteArray := prog_3_method_12_code
def y_R_takeMultiples : MethodName := ⟨R_R, "takeMultiples", "([J[J)V"⟩
abbrev c_R_takeMultiples : ByteArray := prog_3_method_13_code
def y_R_makeMonic : MethodName := ⟨R_R, "makeMonic", "([J)V"⟩
abbrev c_R_makeMonic : ByteArray := prog_3_method_14_code
def y_R_copy : MethodName := ⟨R_R, "copy", "([J[J)V"⟩
abbrev c_R_copy : ByteArray := prog_3_method_15_code
def y_O_init : MethodName := ⟨R_O, "<init>", "(I)V"⟩
abbrev c_O_init : ByteArray := prog_1_method_1_code
def y_O_put : MethodName := ⟨R_O, "put", "(IIJ)Z"⟩
abbrev c_O_put : ByteArray := prog_1_method_2_code
def y_O_at : MethodName := ⟨R_O, "at", "(II)I"⟩
abbrev c_O_at : ByteArray := prog_1_method_3_code
def y_O_hand : MethodName := ⟨R_O, "hand", "(IJ)V"⟩
abbrev c_O_hand : ByteArray := prog_1_method_4_code
def y_O_made : MethodName := ⟨R_O, "made", "(I)I"⟩
abbrev c_O_made : ByteArray := prog_1_method_5_code
def y_O_places : MethodName := ⟨R_O, "places", "()I"⟩
abbrev c_O_places : ByteArray := prog_1_method_6_code
def y_O_place : MethodName := ⟨R_O, "place", "(I)I"⟩
abbrev c_O_place : ByteArray := prog_1_method_7_code
def y_O_level : MethodName := ⟨R_O, "level", "(ZJ)I"⟩
abbrev c_O_level : ByteArray := prog_1_method_8_code
def y_O_regular : MethodName := ⟨R_O, "regular", "(ZJ)Z"⟩
abbrev c_O_regular : ByteArray := prog_1_method_9_code
def y_O_exponent : MethodName := ⟨R_O, "exponent", "(ZJI)I"⟩
abbrev c_O_exponent : ByteArray := prog_1_method_10_code
def y_O_answers : MethodName := ⟨R_O, "answers", "()I"⟩
abbrev c_O_answers : ByteArray := prog_1_method_11_code
def y_O_answer : MethodName := ⟨R_O, "answer", "(II)I"⟩
abbrev c_O_answer : ByteArray := prog_1_method_12_code
def y_O_solves : MethodName := ⟨R_O, "solves", "()Z"⟩
abbrev c_O_solves : ByteArray := prog_1_method_13_code
def y_O_take : MethodName := ⟨R_O, "take", "(I)V"⟩
abbrev c_O_take : ByteArray := prog_1_method_14_code
def y_O_series : MethodName := ⟨R_O, "series", "(JJJJI)I"⟩
abbrev c_O_series : ByteArray := prog_1_method_15_code
def y_O_turn : MethodName := ⟨R_O, "turn", "()V"⟩
abbrev c_O_turn : ByteArray := prog_1_method_16_code
def y_O_move : MethodName := ⟨R_O, "move", "(J)V"⟩
abbrev c_O_move : ByteArray := prog_1_method_17_code
def y_O_clear : MethodName := ⟨R_O, "clear", "()V"⟩
abbrev c_O_clear : ByteArray := prog_1_method_18_code
def y_O_needFactorPower : MethodName := ⟨R_O, "needFactorPower", "(II)V"⟩
abbrev c_O_needFactorPower : ByteArray := prog_1_method_19_code
def y_O_needHandPower : MethodName := ⟨R_O, "needHandPower", "(I)V"⟩
abbrev c_O_needHandPower : ByteArray := prog_1_method_20_code
def y_O_needMember : MethodName := ⟨R_O, "needMember", "(I)V"⟩
abbrev c_O_needMember : ByteArray := prog_1_method_21_code
def y_O_findPlaces : MethodName := ⟨R_O, "findPlaces", "()V"⟩
abbrev c_O_findPlaces : ByteArray := prog_1_method_22_code
def y_O_goTo : MethodName := ⟨R_O, "goTo", "(ZJ)I"⟩
abbrev c_O_goTo : ByteArray := prog_1_method_23_code
def y_O_allZero : MethodName := ⟨R_O, "allZero", "()Z"⟩
abbrev c_O_allZero : ByteArray := prog_1_method_24_code
def y_O_leastGap : MethodName := ⟨R_O, "leastGap", "()I"⟩
abbrev c_O_leastGap : ByteArray := prog_1_method_25_code
def y_O_greatestGap : MethodName := ⟨R_O, "greatestGap", "()I"⟩
abbrev c_O_greatestGap : ByteArray := prog_1_method_26_code
def y_O_isGap : MethodName := ⟨R_O, "isGap", "(I)Z"⟩
abbrev c_O_isGap : ByteArray := prog_1_method_27_code
def y_O_otherAt : MethodName := ⟨R_O, "otherAt", "(II)J"⟩
abbrev c_O_otherAt : ByteArray := prog_1_method_28_code
def y_O_fillIndicial : MethodName := ⟨R_O, "fillIndicial", "(I)V"⟩
abbrev c_O_fillIndicial : ByteArray := prog_1_method_29_code
def y_O_shiftToOther : MethodName := ⟨R_O, "shiftToOther", "(J)V"⟩
abbrev c_O_shiftToOther : ByteArray := prog_1_method_30_code
def y_O_share : MethodName := ⟨R_O, "share", "([[JII)J"⟩
abbrev c_O_share : ByteArray := prog_1_method_31_code
def y_O_madeAt : MethodName := ⟨R_O, "madeAt", "(I)J"⟩
abbrev c_O_madeAt : ByteArray := prog_1_method_32_code
def y_O_nextTerm : MethodName := ⟨R_O, "nextTerm", "(I)J"⟩
abbrev c_O_nextTerm : ByteArray := prog_1_method_33_code
def y_O_adjointAt : MethodName := ⟨R_O, "adjointAt", "(II)J"⟩
abbrev c_O_adjointAt : ByteArray := prog_1_method_34_code
def y_O_slopeAt : MethodName := ⟨R_O, "slopeAt", "([JII)J"⟩
abbrev c_O_slopeAt : ByteArray := prog_1_method_35_code
def y_O_knowBase : MethodName := ⟨R_O, "knowBase", "()V"⟩
abbrev c_O_knowBase : ByteArray := prog_1_method_36_code
def y_O_number : MethodName := ⟨R_O, "number", "(J)J"⟩
abbrev c_O_number : ByteArray := prog_1_method_37_code
def y_O_inverse : MethodName := ⟨R_O, "inverse", "(J)J"⟩
abbrev c_O_inverse : ByteArray := prog_1_method_38_code
def y_O_isZero : MethodName := ⟨R_O, "isZero", "([J)Z"⟩
abbrev c_O_isZero : ByteArray := prog_1_method_39_code
def y_O_degree : MethodName := ⟨R_O, "degree", "([J)I"⟩
abbrev c_O_degree : ByteArray := prog_1_method_40_code
def y_O_shift : MethodName := ⟨R_O, "shift", "([JJ)V"⟩
abbrev c_O_shift : ByteArray := prog_1_method_41_code
def y_M_init : MethodName := ⟨R_M, "<init>", "(I)V"⟩
abbrev c_M_init : ByteArray := prog_5_method_1_code
def y_M_thrown : MethodName := ⟨R_M, "thrown", "()I"⟩
abbrev c_M_thrown : ByteArray := prog_5_method_2_code
def y_M_raise : MethodName := ⟨R_M, "raise", "(I)I"⟩
abbrev c_M_raise : ByteArray := prog_5_method_3_code
def y_M_in : MethodName := ⟨R_M, "in", "(JJJ)Z"⟩
abbrev c_M_in : ByteArray := prog_5_method_4_code
def y_M_modulo : MethodName := ⟨R_M, "modulo", "(J)J"⟩
abbrev c_M_modulo : ByteArray := prog_5_method_5_code
def y_M_inverse : MethodName := ⟨R_M, "inverse", "(J)J"⟩
abbrev c_M_inverse : ByteArray := prog_5_method_6_code
def y_M_falling : MethodName := ⟨R_M, "falling", "(JI)J"⟩
abbrev c_M_falling : ByteArray := prog_5_method_7_code
def y_M_isThere : MethodName := ⟨R_M, "isThere", "(II)Z"⟩
abbrev c_M_isThere : ByteArray := prog_5_method_8_code
def y_M_put : MethodName := ⟨R_M, "put", "(IIJ)Z"⟩
abbrev c_M_put : ByteArray := prog_5_method_9_code
def y_M_at : MethodName := ⟨R_M, "at", "(II)I"⟩
abbrev c_M_at : ByteArray := prog_5_method_10_code
def y_M_clear : MethodName := ⟨R_M, "clear", "()V"⟩
abbrev c_M_clear : ByteArray := prog_5_method_11_code
def y_M_moveTo : MethodName := ⟨R_M, "moveTo", "(J)V"⟩
abbrev c_M_moveTo : ByteArray := prog_5_method_12_code
def y_M_move : MethodName := ⟨R_M, "move", "(J)V"⟩
abbrev c_M_move : ByteArray := prog_5_method_13_code
def y_M_turn : MethodName := ⟨R_M, "turn", "()V"⟩
abbrev c_M_turn : ByteArray := prog_5_method_14_code
def y_M_hand : MethodName := ⟨R_M, "hand", "(IJ)V"⟩
abbrev c_M_hand : ByteArray := prog_5_method_15_code
def y_M_make : MethodName := ⟨R_M, "make", "(IJ)V"⟩
abbrev c_M_make : ByteArray := prog_5_method_16_code
def y_M_makeAll : MethodName := ⟨R_M, "makeAll", "()V"⟩
abbrev c_M_makeAll : ByteArray := prog_5_method_17_code
def y_M_made : MethodName := ⟨R_M, "made", "(I)I"⟩
abbrev c_M_made : ByteArray := prog_5_method_18_code
def y_M_solves : MethodName := ⟨R_M, "solves", "()Z"⟩
abbrev c_M_solves : ByteArray := prog_5_method_19_code
def y_M_hasHead : MethodName := ⟨R_M, "hasHead", "()Z"⟩
abbrev c_M_hasHead : ByteArray := prog_5_method_20_code
def y_M_headAt : MethodName := ⟨R_M, "headAt", "(J)J"⟩
abbrev c_M_headAt : ByteArray := prog_5_method_21_code
def y_M_find : MethodName := ⟨R_M, "find", "(I)I"⟩
abbrev c_M_find : ByteArray := prog_5_method_22_code
def y_M_places : MethodName := ⟨R_M, "places", "()I"⟩
abbrev c_M_places : ByteArray := prog_5_method_23_code
def y_M_place : MethodName := ⟨R_M, "place", "(I)I"⟩
abbrev c_M_place : ByteArray := prog_5_method_24_code
def y_M_findLevel : MethodName := ⟨R_M, "findLevel", "(ZJ)Z"⟩
abbrev c_M_findLevel : ByteArray := prog_5_method_25_code
def y_M_level : MethodName := ⟨R_M, "level", "(ZJ)I"⟩
abbrev c_M_level : ByteArray := prog_5_method_26_code
def y_M_localAt : MethodName := ⟨R_M, "localAt", "(I)J"⟩
abbrev c_M_localAt : ByteArray := prog_5_method_27_code
def y_M_regular : MethodName := ⟨R_M, "regular", "(ZJ)Z"⟩
abbrev c_M_regular : ByteArray := prog_5_method_28_code
def y_M_exponent : MethodName := ⟨R_M, "exponent", "(ZJI)I"⟩
abbrev c_M_exponent : ByteArray := prog_5_method_29_code
def y_M_findAnswers : MethodName := ⟨R_M, "findAnswers", "()V"⟩
abbrev c_M_findAnswers : ByteArray := prog_5_method_30_code
def y_M_bringOut : MethodName := ⟨R_M, "bringOut", "(III)V"⟩
abbrev c_M_bringOut : ByteArray := prog_5_method_31_code
def y_M_answers : MethodName := ⟨R_M, "answers", "()I"⟩
abbrev c_M_answers : ByteArray := prog_5_method_32_code
def y_M_isMember : MethodName := ⟨R_M, "isMember", "(II)Z"⟩
abbrev c_M_isMember : ByteArray := prog_5_method_33_code
def y_M_answer : MethodName := ⟨R_M, "answer", "(II)I"⟩
abbrev c_M_answer : ByteArray := prog_5_method_34_code
def y_M_take : MethodName := ⟨R_M, "take", "(I)V"⟩
abbrev c_M_take : ByteArray := prog_5_method_35_code
def y_M_series : MethodName := ⟨R_M, "series", "(JJJJI)I"⟩
abbrev c_M_series : ByteArray := prog_5_method_36_code
def y_L_cell : MethodName := ⟨R_L, "cell", "([II)I"⟩
abbrev c_L_cell : ByteArray := method_2_code
def y_L_put : MethodName := ⟨R_L, "put", "(LRationalOdes;IIJ[J)I"⟩
abbrev c_L_put : ByteArray := method_3_code
def y_L_at : MethodName := ⟨R_L, "at", "(LRationalOdes;II[J)I"⟩
abbrev c_L_at : ByteArray := method_4_code
def y_L_hand : MethodName := ⟨R_L, "hand", "(LRationalOdes;IJ)I"⟩
abbrev c_L_hand : ByteArray := method_5_code
def y_L_places : MethodName := ⟨R_L, "places", "(LRationalOdes;[J)I"⟩
abbrev c_L_places : ByteArray := method_6_code
def y_L_place : MethodName := ⟨R_L, "place", "(LRationalOdes;I[J)I"⟩
abbrev c_L_place : ByteArray := method_7_code
def y_L_level : MethodName := ⟨R_L, "level", "(LRationalOdes;ZJ[J)I"⟩
abbrev c_L_level : ByteArray := method_8_code
def y_L_regular : MethodName := ⟨R_L, "regular", "(LRationalOdes;ZJ[J)I"⟩
abbrev c_L_regular : ByteArray := method_9_code
def y_L_exponent : MethodName := ⟨R_L, "exponent", "(LRationalOdes;ZJI[J)I"⟩
abbrev c_L_exponent : ByteArray := method_10_code
def y_L_answer : MethodName := ⟨R_L, "answer", "(LRationalOdes;II[J)I"⟩
abbrev c_L_answer : ByteArray := method_11_code
def y_L_take : MethodName := ⟨R_L, "take", "(LRationalOdes;I)I"⟩
abbrev c_L_take : ByteArray := method_12_code
def y_L_series : MethodName := ⟨R_L, "series", "(LRationalOdes;JJJJI[J)I"⟩
abbrev c_L_series : ByteArray := method_13_code
def y_L_law : MethodName := ⟨R_L, "law", "([I)Z"⟩
abbrev c_L_law : ByteArray := code
def y_J_fill : MethodName := ⟨"java/util/Arrays", "fill", "([JJ)V"⟩
abbrev c_J_fill : ByteArray := prog_15_method_101_code
theorem kw_0 : (Jvm.Cond.initialized "RationalOdesLaw") ∈ kb := kb_1 (List.mem_of_getElem? (i := 0) rfl) rfl
theorem kw_1 : (Jvm.Cond.initialized "RationalOdes") ∈ kb := kb_1 (List.mem_of_getElem? (i := 1) rfl) rfl
theorem kw_2 : (Jvm.Cond.initialized "RationalOdes$Roots") ∈ kb := kb_1 (List.mem_of_getElem? (i := 2) rfl) rfl
theorem kw_3 : (Jvm.Cond.initialized "RationalOdes$Base") ∈ kb := kb_1 (List.mem_of_getElem? (i := 3) rfl) rfl
theorem kw_4 : (Jvm.Cond.initialized "java/lang/Math") ∈ kb := kb_1 (List.mem_of_getElem? (i := 4) rfl) rfl
theorem kw_5 : (Jvm.Cond.initialized "RationalOdesModel") ∈ kb := kb_1 (List.mem_of_getElem? (i := 5) rfl) rfl
theorem kw_11 : (Jvm.Cond.initialized "java/lang/System") ∈ kb := kb_1 (List.mem_of_getElem? (i := 11) rfl) rfl
theorem kw_12 : (Jvm.Cond.initialized "java/util/Arrays") ∈ kb := kb_1 (List.mem_of_getElem? (i := 12) rfl) rfl
theorem kw_14 : (Jvm.Cond.classLink "RationalOdesLaw" (8 : Nat) "RationalOdes") ∈ kb := kb_1 (List.mem_of_getElem? (i := 14) rfl) rfl
theorem kw_15 : (Jvm.Cond.instantiable "RationalOdes" (9 : Nat)) ∈ kb := kb_1 (List.mem_of_getElem? (i := 15) rfl) rfl
theorem kw_16 : (Jvm.Cond.methodLink "RationalOdesLaw" (64 : Nat) ({ cls := "RationalOdes", name := "<init>", desc := "(I)V" } : Jvm.MethodName)) ∈ kb := kb_1 (List.mem_of_getElem? (i := 16) rfl) rfl
theorem kw_17 : (Jvm.Cond.instanceMethod ({ cls := "RationalOdes", name := "<init>", desc := "(I)V" } : Jvm.MethodName)) ∈ kb := kb_1 (List.mem_of_getElem? (i := 17) rfl) rfl
theorem kw_18 : (Jvm.Cond.code ({ cls := "RationalOdes", name := "<init>", desc := "(I)V" } : Jvm.MethodName) prog_1_method_1_code (2 : Nat) (Option.none : Option Jvm.ClassFile.FieldType)) ∈ kb := kb_1 (List.mem_of_getElem? (i := 18) rfl) rfl
theorem kw_19 : (Jvm.Cond.methodLink "RationalOdes" (3 : Nat) ({ cls := "java/lang/Object", name := "<init>", desc := "()V" } : Jvm.MethodName)) ∈ kb := kb_1 (List.mem_of_getElem? (i := 19) rfl) rfl
theorem kw_20 : (Jvm.Cond.instanceMethod ({ cls := "java/lang/Object", name := "<init>", desc := "()V" } : Jvm.MethodName)) ∈ kb := kb_1 (List.mem_of_getElem? (i := 20) rfl) rfl
theorem kw_21 : (Jvm.Cond.code ({ cls := "java/lang/Object", name := "<init>", desc := "()V" } : Jvm.MethodName) object_method_1_code (1 : Nat) (Option.none : Option Jvm.ClassFile.FieldType)) ∈ kb := kb_1 (List.mem_of_getElem? (i := 21) rfl) rfl
theorem kw_22 : (Jvm.Cond.classLink "RationalOdes" (9 : Nat) "[[J") ∈ kb := kb_1 (List.mem_of_getElem? (i := 22) rfl) rfl
theorem kw_24 : (Jvm.Cond.classLink "RationalOdes" (27 : Nat) "RationalOdes$Roots") ∈ kb := kb_1 (List.mem_of_getElem? (i := 24) rfl) rfl
theorem kw_25 : (Jvm.Cond.instantiable "RationalOdes$Roots" (8 : Nat)) ∈ kb := kb_1 (List.mem_of_getElem? (i := 25) rfl) rfl
theorem kw_27 : (Jvm.Cond.instanceMethod ({ cls := "RationalOdes$Roots", name := "<init>", desc := "()V" } : Jvm.MethodName)) ∈ kb := kb_1 (List.mem_of_getElem? (i := 27) rfl) rfl
theorem kw_28 : (Jvm.Cond.code ({ cls := "RationalOdes$Roots", name := "<init>", desc := "()V" } : Jvm.MethodName) prog_3_method_1_code (1 : Nat) (Option.none : Option Jvm.ClassFile.FieldType)) ∈ kb := kb_1 (List.mem_of_getElem? (i := 28) rfl) rfl
theorem kw_29 : (Jvm.Cond.methodLink "RationalOdes$Roots" (3 : Nat) ({ cls := "java/lang/Object", name := "<init>", desc := "()V" } : Jvm.MethodName)) ∈ kb := kb_1 (List.mem_of_getElem? (i := 29) rfl) rfl
theorem kw_30 : (Jvm.Cond.fieldLink "RationalOdes$Roots" (9 : Nat) "RationalOdes$Roots" "found" "[J") ∈ kb := kb_1 (List.mem_of_getElem? (i := 30) rfl) rfl
theorem kw_31 : (Jvm.Cond.fieldLink "RationalOdes$Roots" (15 : Nat) "RationalOdes$Roots" "count" "I") ∈ kb := kb_1 (List.mem_of_getElem? (i := 31) rfl) rfl
theorem kw_32 : (Jvm.Cond.fieldLink "RationalOdes$Roots" (19 : Nat) "RationalOdes$Roots" "whole" "[J") ∈ kb := kb_1 (List.mem_of_getElem? (i := 32) rfl) rfl
theorem kw_33 : (Jvm.Cond.fieldLink "RationalOdes$Roots" (22 : Nat) "RationalOdes$Roots" "part" "[J") ∈ kb := kb_1 (List.mem_of_getElem? (i := 33) rfl) rfl
theorem kw_34 : (Jvm.Cond.fieldLink "RationalOdes$Roots" (25 : Nat) "RationalOdes$Roots" "raised" "[J") ∈ kb := kb_1 (List.mem_of_getElem? (i := 34) rfl) rfl
theorem kw_35 : (Jvm.Cond.fieldLink "RationalOdes$Roots" (28 : Nat) "RationalOdes$Roots" "square" "[J") ∈ kb := kb_1 (List.mem_of_getElem? (i := 35) rfl) rfl
theorem kw_36 : (Jvm.Cond.fieldLink "RationalOdes$Roots" (31 : Nat) "RationalOdes$Roots" "one" "[J") ∈ kb := kb_1 (List.mem_of_getElem? (i := 36) rfl) rfl
theorem kw_37 : (Jvm.Cond.fieldLink "RationalOdes$Roots" (34 : Nat) "RationalOdes$Roots" "two" "[J") ∈ kb := kb_1 (List.mem_of_getElem? (i := 37) rfl) rfl
theorem kw_38 : (Jvm.Cond.laysFinal "RationalOdes$Roots" "RationalOdes$Roots" "found" "[J") ∈ kb := kb_1 (List.mem_of_getElem? (i := 38) rfl) rfl
theorem kw_39 : (Jvm.Cond.soleField "RationalOdes$Roots" "found") ∈ kb := kb_1 (List.mem_of_getElem? (i := 39) rfl) rfl
theorem kw_40 : (Jvm.Cond.lays "RationalOdes$Roots" "RationalOdes$Roots" "count" "I") ∈ kb := kb_1 (List.mem_of_getElem? (i := 40) rfl) rfl
theorem kw_41 : (Jvm.Cond.soleField "RationalOdes$Roots" "count") ∈ kb := kb_1 (List.mem_of_getElem? (i := 41) rfl) rfl
theorem kw_42 : (Jvm.Cond.laysFinal "RationalOdes$Roots" "RationalOdes$Roots" "whole" "[J") ∈ kb := kb_1 (List.mem_of_getElem? (i := 42) rfl) rfl
theorem kw_43 : (Jvm.Cond.soleField "RationalOdes$Roots" "whole") ∈ kb := kb_1 (List.mem_of_getElem? (i := 43) rfl) rfl
theorem kw_44 : (Jvm.Cond.laysFinal "RationalOdes$Roots" "RationalOdes$Roots" "part" "[J") ∈ kb := kb_1 (List.mem_of_getElem? (i := 44) rfl) rfl
theorem kw_45 : (Jvm.Cond.soleField "RationalOdes$Roots" "part") ∈ kb := kb_1 (List.mem_of_getElem? (i := 45) rfl) rfl
theorem kw_46 : (Jvm.Cond.laysFinal "RationalOdes$Roots" "RationalOdes$Roots" "raised" "[J") ∈ kb := kb_1 (List.mem_of_getElem? (i := 46) rfl) rfl
theorem kw_47 : (Jvm.Cond.soleField "RationalOdes$Roots" "raised") ∈ kb := kb_1 (List.mem_of_getElem? (i := 47) rfl) rfl
theorem kw_48 : (Jvm.Cond.laysFinal "RationalOdes$Roots" "RationalOdes$Roots" "square" "[J") ∈ kb := kb_1 (List.mem_of_getElem? (i := 48) rfl) rfl
theorem kw_49 : (Jvm.Cond.soleField "RationalOdes$Roots" "square") ∈ kb := kb_1 (List.mem_of_getElem? (i := 49) rfl) rfl
theorem kw_50 : (Jvm.Cond.laysFinal "RationalOdes$Roots" "RationalOdes$Roots" "one" "[J") ∈ kb := kb_1 (List.mem_of_getElem? (i := 50) rfl) rfl
theorem kw_51 : (Jvm.Cond.soleField "RationalOdes$Roots" "one") ∈ kb := kb_1 (List.mem_of_getElem? (i := 51) rfl) rfl
theorem kw_52 : (Jvm.Cond.laysFinal "RationalOdes$Roots" "RationalOdes$Roots" "two" "[J") ∈ kb := kb_1 (List.mem_of_getElem? (i := 52) rfl) rfl
theorem kw_53 : (Jvm.Cond.soleField "RationalOdes$Roots" "two") ∈ kb := kb_1 (List.mem_of_getElem? (i := 53) rfl) rfl
theorem kw_54 : (Jvm.Cond.superclass "RationalOdes$Roots" "java/lang/Object") ∈ kb := kb_1 (List.mem_of_getElem? (i := 54) rfl) rfl
theorem kw_55 : (Jvm.Cond.arrayClass Jvm.ClassFile.FieldType.long) ∈ kb := kb_1 (List.mem_of_getElem? (i := 55) rfl) rfl
theorem kw_56 : (Jvm.Cond.classLink "RationalOdes" (34 : Nat) "RationalOdes$Base") ∈ kb := kb_1 (List.mem_of_getElem? (i := 56) rfl) rfl
theorem kw_57 : (Jvm.Cond.instantiable "RationalOdes$Base" (4 : Nat)) ∈ kb := kb_1 (List.mem_of_getElem? (i := 57) rfl) rfl
theorem kw_59 : (Jvm.Cond.instanceMethod ({ cls := "RationalOdes$Base", name := "<init>", desc := "()V" } : Jvm.MethodName)) ∈ kb := kb_1 (List.mem_of_getElem? (i := 59) rfl) rfl
theorem kw_60 : (Jvm.Cond.code ({ cls := "RationalOdes$Base", name := "<init>", desc := "()V" } : Jvm.MethodName) prog_2_method_1_code (1 : Nat) (Option.none : Option Jvm.ClassFile.FieldType)) ∈ kb := kb_1 (List.mem_of_getElem? (i := 60) rfl) rfl
theorem kw_61 : (Jvm.Cond.methodLink "RationalOdes$Base" (3 : Nat) ({ cls := "java/lang/Object", name := "<init>", desc := "()V" } : Jvm.MethodName)) ∈ kb := kb_1 (List.mem_of_getElem? (i := 61) rfl) rfl
theorem kw_62 : (Jvm.Cond.classLink "RationalOdes$Base" (9 : Nat) "[[J") ∈ kb := kb_1 (List.mem_of_getElem? (i := 62) rfl) rfl
theorem kw_63 : (Jvm.Cond.fieldLink "RationalOdes$Base" (11 : Nat) "RationalOdes$Base" "rows" "[[J") ∈ kb := kb_1 (List.mem_of_getElem? (i := 63) rfl) rfl
theorem kw_64 : (Jvm.Cond.fieldLink "RationalOdes$Base" (16 : Nat) "RationalOdes$Base" "leads" "[I") ∈ kb := kb_1 (List.mem_of_getElem? (i := 64) rfl) rfl
theorem kw_65 : (Jvm.Cond.fieldLink "RationalOdes$Base" (20 : Nat) "RationalOdes$Base" "members" "[[J") ∈ kb := kb_1 (List.mem_of_getElem? (i := 65) rfl) rfl
theorem kw_66 : (Jvm.Cond.fieldLink "RationalOdes$Base" (23 : Nat) "RationalOdes$Base" "count" "I") ∈ kb := kb_1 (List.mem_of_getElem? (i := 66) rfl) rfl
theorem kw_67 : (Jvm.Cond.laysFinal "RationalOdes$Base" "RationalOdes$Base" "rows" "[[J") ∈ kb := kb_1 (List.mem_of_getElem? (i := 67) rfl) rfl
theorem kw_68 : (Jvm.Cond.soleField "RationalOdes$Base" "rows") ∈ kb := kb_1 (List.mem_of_getElem? (i := 68) rfl) rfl
theorem kw_69 : (Jvm.Cond.laysFinal "RationalOdes$Base" "RationalOdes$Base" "leads" "[I") ∈ kb := kb_1 (List.mem_of_getElem? (i := 69) rfl) rfl
theorem kw_70 : (Jvm.Cond.soleField "RationalOdes$Base" "leads") ∈ kb := kb_1 (List.mem_of_getElem? (i := 70) rfl) rfl
theorem kw_71 : (Jvm.Cond.laysFinal "RationalOdes$Base" "RationalOdes$Base" "members" "[[J") ∈ kb := kb_1 (List.mem_of_getElem? (i := 71) rfl) rfl
theorem kw_72 : (Jvm.Cond.soleField "RationalOdes$Base" "members") ∈ kb := kb_1 (List.mem_of_getElem? (i := 72) rfl) rfl
theorem kw_73 : (Jvm.Cond.lays "RationalOdes$Base" "RationalOdes$Base" "count" "I") ∈ kb := kb_1 (List.mem_of_getElem? (i := 73) rfl) rfl
theorem kw_74 : (Jvm.Cond.soleField "RationalOdes$Base" "count") ∈ kb := kb_1 (List.mem_of_getElem? (i := 74) rfl) rfl
theorem kw_75 : (Jvm.Cond.superclass "RationalOdes$Base" "java/lang/Object") ∈ kb := kb_1 (List.mem_of_getElem? (i := 75) rfl) rfl
theorem kw_76 : (Jvm.Cond.arrayClass Jvm.ClassFile.FieldType.int) ∈ kb := kb_1 (List.mem_of_getElem? (i := 76) rfl) rfl
theorem kw_77 : (Jvm.Cond.methodLink "RationalOdes" (45 : Nat) ({ cls := "java/lang/Math", name := "min", desc := "(II)I" } : Jvm.MethodName)) ∈ kb := kb_1 (List.mem_of_getElem? (i := 77) rfl) rfl
theorem kw_78 : (Jvm.Cond.static ({ cls := "java/lang/Math", name := "min", desc := "(II)I" } : Jvm.MethodName)) ∈ kb := kb_1 (List.mem_of_getElem? (i := 78) rfl) rfl
theorem kw_79 : (Jvm.Cond.code ({ cls := "java/lang/Math", name := "min", desc := "(II)I" } : Jvm.MethodName) prog_10_method_69_code (2 : Nat) (Option.some Jvm.ClassFile.FieldType.int)) ∈ kb := kb_1 (List.mem_of_getElem? (i := 79) rfl) rfl
theorem kw_80 : (Jvm.Cond.methodLink "RationalOdes" (51 : Nat) ({ cls := "java/lang/Math", name := "max", desc := "(II)I" } : Jvm.MethodName)) ∈ kb := kb_1 (List.mem_of_getElem? (i := 80) rfl) rfl
theorem kw_81 : (Jvm.Cond.static ({ cls := "java/lang/Math", name := "max", desc := "(II)I" } : Jvm.MethodName)) ∈ kb := kb_1 (List.mem_of_getElem? (i := 81) rfl) rfl
theorem kw_82 : (Jvm.Cond.code ({ cls := "java/lang/Math", name := "max", desc := "(II)I" } : Jvm.MethodName) prog_10_method_65_code (2 : Nat) (Option.some Jvm.ClassFile.FieldType.int)) ∈ kb := kb_1 (List.mem_of_getElem? (i := 82) rfl) rfl
theorem kw_83 : (Jvm.Cond.fieldLink "RationalOdes" (54 : Nat) "RationalOdes" "order" "I") ∈ kb := kb_1 (List.mem_of_getElem? (i := 83) rfl) rfl
theorem kw_84 : (Jvm.Cond.fieldLink "RationalOdes" (11 : Nat) "RationalOdes" "factors" "[[J") ∈ kb := kb_1 (List.mem_of_getElem? (i := 84) rfl) rfl
theorem kw_85 : (Jvm.Cond.fieldLink "RationalOdes" (14 : Nat) "RationalOdes" "other" "[[J") ∈ kb := kb_1 (List.mem_of_getElem? (i := 85) rfl) rfl
theorem kw_86 : (Jvm.Cond.fieldLink "RationalOdes" (17 : Nat) "RationalOdes" "atHand" "[J") ∈ kb := kb_1 (List.mem_of_getElem? (i := 86) rfl) rfl
theorem kw_87 : (Jvm.Cond.fieldLink "RationalOdes" (21 : Nat) "RationalOdes" "terms" "[J") ∈ kb := kb_1 (List.mem_of_getElem? (i := 87) rfl) rfl
theorem kw_88 : (Jvm.Cond.fieldLink "RationalOdes" (24 : Nat) "RationalOdes" "indicial" "[J") ∈ kb := kb_1 (List.mem_of_getElem? (i := 88) rfl) rfl
theorem kw_89 : (Jvm.Cond.fieldLink "RationalOdes" (30 : Nat) "RationalOdes" "roots" "LRationalOdes$Roots;") ∈ kb := kb_1 (List.mem_of_getElem? (i := 89) rfl) rfl
theorem kw_90 : (Jvm.Cond.fieldLink "RationalOdes" (37 : Nat) "RationalOdes" "base" "LRationalOdes$Base;") ∈ kb := kb_1 (List.mem_of_getElem? (i := 90) rfl) rfl
theorem kw_91 : (Jvm.Cond.fieldLink "RationalOdes" (41 : Nat) "RationalOdes" "baseKnown" "Z") ∈ kb := kb_1 (List.mem_of_getElem? (i := 91) rfl) rfl
theorem kw_92 : (Jvm.Cond.laysFinal "RationalOdes" "RationalOdes" "order" "I") ∈ kb := kb_1 (List.mem_of_getElem? (i := 92) rfl) rfl
theorem kw_93 : (Jvm.Cond.soleField "RationalOdes" "order") ∈ kb := kb_1 (List.mem_of_getElem? (i := 93) rfl) rfl
theorem kw_94 : (Jvm.Cond.laysFinal "RationalOdes" "RationalOdes" "factors" "[[J") ∈ kb := kb_1 (List.mem_of_getElem? (i := 94) rfl) rfl
theorem kw_95 : (Jvm.Cond.soleField "RationalOdes" "factors") ∈ kb := kb_1 (List.mem_of_getElem? (i := 95) rfl) rfl
theorem kw_96 : (Jvm.Cond.laysFinal "RationalOdes" "RationalOdes" "other" "[[J") ∈ kb := kb_1 (List.mem_of_getElem? (i := 96) rfl) rfl
theorem kw_97 : (Jvm.Cond.soleField "RationalOdes" "other") ∈ kb := kb_1 (List.mem_of_getElem? (i := 97) rfl) rfl
theorem kw_98 : (Jvm.Cond.laysFinal "RationalOdes" "RationalOdes" "atHand" "[J") ∈ kb := kb_1 (List.mem_of_getElem? (i := 98) rfl) rfl
theorem kw_99 : (Jvm.Cond.soleField "RationalOdes" "atHand") ∈ kb := kb_1 (List.mem_of_getElem? (i := 99) rfl) rfl
theorem kw_100 : (Jvm.Cond.laysFinal "RationalOdes" "RationalOdes" "terms" "[J") ∈ kb := kb_1 (List.mem_of_getElem? (i := 100) rfl) rfl
theorem kw_101 : (Jvm.Cond.soleField "RationalOdes" "terms") ∈ kb := kb_1 (List.mem_of_getElem? (i := 101) rfl) rfl
theorem kw_102 : (Jvm.Cond.laysFinal "RationalOdes" "RationalOdes" "indicial" "[J") ∈ kb := kb_1 (List.mem_of_getElem? (i := 102) rfl) rfl
theorem kw_103 : (Jvm.Cond.soleField "RationalOdes" "indicial") ∈ kb := kb_1 (List.mem_of_getElem? (i := 103) rfl) rfl
theorem kw_104 : (Jvm.Cond.laysFinal "RationalOdes" "RationalOdes" "roots" "LRationalOdes$Roots;") ∈ kb := kb_1 (List.mem_of_getElem? (i := 104) rfl) rfl
theorem kw_105 : (Jvm.Cond.soleField "RationalOdes" "roots") ∈ kb := kb_1 (List.mem_of_getElem? (i := 105) rfl) rfl
theorem kw_106 : (Jvm.Cond.laysFinal "RationalOdes" "RationalOdes" "base" "LRationalOdes$Base;") ∈ kb := kb_1 (List.mem_of_getElem? (i := 106) rfl) rfl
theorem kw_107 : (Jvm.Cond.soleField "RationalOdes" "base") ∈ kb := kb_1 (List.mem_of_getElem? (i := 107) rfl) rfl
theorem kw_108 : (Jvm.Cond.lays "RationalOdes" "RationalOdes" "baseKnown" "Z") ∈ kb := kb_1 (List.mem_of_getElem? (i := 108) rfl) rfl
theorem kw_109 : (Jvm.Cond.soleField "RationalOdes" "baseKnown") ∈ kb := kb_1 (List.mem_of_getElem? (i := 109) rfl) rfl
theorem kw_110 : (Jvm.Cond.superclass "RationalOdes" "java/lang/Object") ∈ kb := kb_1 (List.mem_of_getElem? (i := 110) rfl) rfl
theorem kw_111 : (Jvm.Cond.methodLink "RationalOdesLaw" (86 : Nat) ({ cls := "RationalOdes", name := "made", desc := "(I)I" } : Jvm.MethodName)) ∈ kb := kb_1 (List.mem_of_getElem? (i := 111) rfl) rfl
theorem kw_112 : (Jvm.Cond.instanceMethod ({ cls := "RationalOdes", name := "made", desc := "(I)I" } : Jvm.MethodName)) ∈ kb := kb_1 (List.mem_of_getElem? (i := 112) rfl) rfl
theorem kw_113 : (Jvm.Cond.selects "RationalOdes" ({ cls := "RationalOdes", name := "made", desc := "(I)I" } : Jvm.MethodName) ({ cls := "RationalOdes", name := "made", desc := "(I)I" } : Jvm.MethodName)) ∈ kb := kb_1 (List.mem_of_getElem? (i := 113) rfl) rfl
theorem kw_114 : (Jvm.Cond.code ({ cls := "RationalOdes", name := "made", desc := "(I)I" } : Jvm.MethodName) prog_1_method_5_code (2 : Nat) (Option.some Jvm.ClassFile.FieldType.int)) ∈ kb := kb_1 (List.mem_of_getElem? (i := 114) rfl) rfl
theorem kw_115 : (Jvm.Cond.methodLink "RationalOdes" (70 : Nat) ({ cls := "RationalOdes", name := "madeAt", desc := "(I)J" } : Jvm.MethodName)) ∈ kb := kb_1 (List.mem_of_getElem? (i := 115) rfl) rfl
theorem kw_117 : (Jvm.Cond.instanceMethod ({ cls := "RationalOdes", name := "madeAt", desc := "(I)J" } : Jvm.MethodName)) ∈ kb := kb_1 (List.mem_of_getElem? (i := 117) rfl) rfl
theorem kw_118 : (Jvm.Cond.code ({ cls := "RationalOdes", name := "madeAt", desc := "(I)J" } : Jvm.MethodName) prog_1_method_32_code (5 : Nat) (Option.some Jvm.ClassFile.FieldType.long)) ∈ kb := kb_1 (List.mem_of_getElem? (i := 118) rfl) rfl
theorem kw_119 : (Jvm.Cond.methodLink "RationalOdes" (187 : Nat) ({ cls := "RationalOdes", name := "share", desc := "([[JII)J" } : Jvm.MethodName)) ∈ kb := kb_1 (List.mem_of_getElem? (i := 119) rfl) rfl
theorem kw_121 : (Jvm.Cond.instanceMethod ({ cls := "RationalOdes", name := "share", desc := "([[JII)J" } : Jvm.MethodName)) ∈ kb := kb_1 (List.mem_of_getElem? (i := 121) rfl) rfl
theorem kw_122 : (Jvm.Cond.code ({ cls := "RationalOdes", name := "share", desc := "([[JII)J" } : Jvm.MethodName) prog_1_method_31_code (10 : Nat) (Option.some Jvm.ClassFile.FieldType.long)) ∈ kb := kb_1 (List.mem_of_getElem? (i := 122) rfl) rfl
theorem kw_123 : (Jvm.Cond.methodLink "RationalOdes" (62 : Nat) ({ cls := "RationalOdes", name := "number", desc := "(J)J" } : Jvm.MethodName)) ∈ kb := kb_1 (List.mem_of_getElem? (i := 123) rfl) rfl
theorem kw_124 : (Jvm.Cond.static ({ cls := "RationalOdes", name := "number", desc := "(J)J" } : Jvm.MethodName)) ∈ kb := kb_1 (List.mem_of_getElem? (i := 124) rfl) rfl
theorem kw_125 : (Jvm.Cond.code ({ cls := "RationalOdes", name := "number", desc := "(J)J" } : Jvm.MethodName) prog_1_method_37_code (4 : Nat) (Option.some Jvm.ClassFile.FieldType.long)) ∈ kb := kb_1 (List.mem_of_getElem? (i := 125) rfl) rfl
theorem kw_126 : (Jvm.Cond.constantLong "RationalOdes" (209 : Nat) (32003 : Int64)) ∈ kb := kb_1 (List.mem_of_getElem? (i := 126) rfl) rfl
theorem kw_127 : (Jvm.Cond.methodLink "RationalOdesLaw" (109 : Nat) ({ cls := "RationalOdes", name := "answers", desc := "()I" } : Jvm.MethodName)) ∈ kb := kb_1 (List.mem_of_getElem? (i := 127) rfl) rfl
theorem kw_128 : (Jvm.Cond.instanceMethod ({ cls := "RationalOdes", name := "answers", desc := "()I" } : Jvm.MethodName)) ∈ kb := kb_1 (List.mem_of_getElem? (i := 128) rfl) rfl
theorem kw_129 : (Jvm.Cond.selects "RationalOdes" ({ cls := "RationalOdes", name := "answers", desc := "()I" } : Jvm.MethodName) ({ cls := "RationalOdes", name := "answers", desc := "()I" } : Jvm.MethodName)) ∈ kb := kb_1 (List.mem_of_getElem? (i := 129) rfl) rfl
theorem kw_130 : (Jvm.Cond.code ({ cls := "RationalOdes", name := "answers", desc := "()I" } : Jvm.MethodName) prog_1_method_11_code (1 : Nat) (Option.some Jvm.ClassFile.FieldType.int)) ∈ kb := kb_1 (List.mem_of_getElem? (i := 130) rfl) rfl
theorem kw_131 : (Jvm.Cond.methodLink "RationalOdes" (107 : Nat) ({ cls := "RationalOdes", name := "knowBase", desc := "()V" } : Jvm.MethodName)) ∈ kb := kb_1 (List.mem_of_getElem? (i := 131) rfl) rfl
theorem kw_133 : (Jvm.Cond.instanceMethod ({ cls := "RationalOdes", name := "knowBase", desc := "()V" } : Jvm.MethodName)) ∈ kb := kb_1 (List.mem_of_getElem? (i := 133) rfl) rfl
theorem kw_134 : (Jvm.Cond.code ({ cls := "RationalOdes", name := "knowBase", desc := "()V" } : Jvm.MethodName) prog_1_method_36_code (3 : Nat) (Option.none : Option Jvm.ClassFile.FieldType)) ∈ kb := kb_1 (List.mem_of_getElem? (i := 134) rfl) rfl
theorem kw_135 : (Jvm.Cond.methodLink "RationalOdes" (202 : Nat) ({ cls := "RationalOdes$Base", name := "enter", desc := "(IIJ)V" } : Jvm.MethodName)) ∈ kb := kb_1 (List.mem_of_getElem? (i := 135) rfl) rfl
theorem kw_136 : (Jvm.Cond.instanceMethod ({ cls := "RationalOdes$Base", name := "enter", desc := "(IIJ)V" } : Jvm.MethodName)) ∈ kb := kb_1 (List.mem_of_getElem? (i := 136) rfl) rfl
theorem kw_137 : (Jvm.Cond.selects "RationalOdes$Base" ({ cls := "RationalOdes$Base", name := "enter", desc := "(IIJ)V" } : Jvm.MethodName) ({ cls := "RationalOdes$Base", name := "enter", desc := "(IIJ)V" } : Jvm.MethodName)) ∈ kb := kb_1 (List.mem_of_getElem? (i := 137) rfl) rfl
theorem kw_138 : (Jvm.Cond.code ({ cls := "RationalOdes$Base", name := "enter", desc := "(IIJ)V" } : Jvm.MethodName) prog_2_method_4_code (5 : Nat) (Option.none : Option Jvm.ClassFile.FieldType)) ∈ kb := kb_1 (List.mem_of_getElem? (i := 138) rfl) rfl
theorem kw_139 : (Jvm.Cond.methodLink "RationalOdes" (206 : Nat) ({ cls := "RationalOdes$Base", name := "solve", desc := "()V" } : Jvm.MethodName)) ∈ kb := kb_1 (List.mem_of_getElem? (i := 139) rfl) rfl
theorem kw_140 : (Jvm.Cond.instanceMethod ({ cls := "RationalOdes$Base", name := "solve", desc := "()V" } : Jvm.MethodName)) ∈ kb := kb_1 (List.mem_of_getElem? (i := 140) rfl) rfl
theorem kw_141 : (Jvm.Cond.selects "RationalOdes$Base" ({ cls := "RationalOdes$Base", name := "solve", desc := "()V" } : Jvm.MethodName) ({ cls := "RationalOdes$Base", name := "solve", desc := "()V" } : Jvm.MethodName)) ∈ kb := kb_1 (List.mem_of_getElem? (i := 141) rfl) rfl
theorem kw_142 : (Jvm.Cond.code ({ cls := "RationalOdes$Base", name := "solve", desc := "()V" } : Jvm.MethodName) prog_2_method_5_code (2 : Nat) (Option.none : Option Jvm.ClassFile.FieldType)) ∈ kb := kb_1 (List.mem_of_getElem? (i := 142) rfl) rfl
theorem kw_143 : (Jvm.Cond.methodLink "RationalOdes$Base" (27 : Nat) ({ cls := "RationalOdes$Base", name := "reduceRows", desc := "()V" } : Jvm.MethodName)) ∈ kb := kb_1 (List.mem_of_getElem? (i := 143) rfl) rfl
theorem kw_145 : (Jvm.Cond.instanceMethod ({ cls := "RationalOdes$Base", name := "reduceRows", desc := "()V" } : Jvm.MethodName)) ∈ kb := kb_1 (List.mem_of_getElem? (i := 145) rfl) rfl
theorem kw_146 : (Jvm.Cond.code ({ cls := "RationalOdes$Base", name := "reduceRows", desc := "()V" } : Jvm.MethodName) prog_2_method_6_code (4 : Nat) (Option.none : Option Jvm.ClassFile.FieldType)) ∈ kb := kb_1 (List.mem_of_getElem? (i := 146) rfl) rfl
theorem kw_147 : (Jvm.Cond.methodLink "RationalOdes$Base" (34 : Nat) ({ cls := "RationalOdes$Base", name := "rowWith", desc := "(II)I" } : Jvm.MethodName)) ∈ kb := kb_1 (List.mem_of_getElem? (i := 147) rfl) rfl
theorem kw_149 : (Jvm.Cond.instanceMethod ({ cls := "RationalOdes$Base", name := "rowWith", desc := "(II)I" } : Jvm.MethodName)) ∈ kb := kb_1 (List.mem_of_getElem? (i := 149) rfl) rfl
theorem kw_150 : (Jvm.Cond.code ({ cls := "RationalOdes$Base", name := "rowWith", desc := "(II)I" } : Jvm.MethodName) prog_2_method_7_code (4 : Nat) (Option.some Jvm.ClassFile.FieldType.int)) ∈ kb := kb_1 (List.mem_of_getElem? (i := 150) rfl) rfl
theorem kw_151 : (Jvm.Cond.methodLink "RationalOdes$Base" (38 : Nat) ({ cls := "RationalOdes$Base", name := "swap", desc := "(II)V" } : Jvm.MethodName)) ∈ kb := kb_1 (List.mem_of_getElem? (i := 151) rfl) rfl
theorem kw_153 : (Jvm.Cond.instanceMethod ({ cls := "RationalOdes$Base", name := "swap", desc := "(II)V" } : Jvm.MethodName)) ∈ kb := kb_1 (List.mem_of_getElem? (i := 153) rfl) rfl
theorem kw_154 : (Jvm.Cond.code ({ cls := "RationalOdes$Base", name := "swap", desc := "(II)V" } : Jvm.MethodName) prog_2_method_8_code (6 : Nat) (Option.none : Option Jvm.ClassFile.FieldType)) ∈ kb := kb_1 (List.mem_of_getElem? (i := 154) rfl) rfl
theorem kw_155 : (Jvm.Cond.methodLink "RationalOdes$Base" (42 : Nat) ({ cls := "RationalOdes$Base", name := "scaleRow", desc := "(II)V" } : Jvm.MethodName)) ∈ kb := kb_1 (List.mem_of_getElem? (i := 155) rfl) rfl
theorem kw_157 : (Jvm.Cond.instanceMethod ({ cls := "RationalOdes$Base", name := "scaleRow", desc := "(II)V" } : Jvm.MethodName)) ∈ kb := kb_1 (List.mem_of_getElem? (i := 157) rfl) rfl
theorem kw_158 : (Jvm.Cond.code ({ cls := "RationalOdes$Base", name := "scaleRow", desc := "(II)V" } : Jvm.MethodName) prog_2_method_9_code (6 : Nat) (Option.none : Option Jvm.ClassFile.FieldType)) ∈ kb := kb_1 (List.mem_of_getElem? (i := 158) rfl) rfl
theorem kw_160 : (Jvm.Cond.static ({ cls := "RationalOdes", name := "inverse", desc := "(J)J" } : Jvm.MethodName)) ∈ kb := kb_1 (List.mem_of_getElem? (i := 160) rfl) rfl
theorem kw_161 : (Jvm.Cond.code ({ cls := "RationalOdes", name := "inverse", desc := "(J)J" } : Jvm.MethodName) prog_1_method_38_code (5 : Nat) (Option.some Jvm.ClassFile.FieldType.long)) ∈ kb := kb_1 (List.mem_of_getElem? (i := 161) rfl) rfl
theorem kw_162 : (Jvm.Cond.constantLong "RationalOdes$Base" (52 : Nat) (32003 : Int64)) ∈ kb := kb_1 (List.mem_of_getElem? (i := 162) rfl) rfl
theorem kw_163 : (Jvm.Cond.methodLink "RationalOdes$Base" (45 : Nat) ({ cls := "RationalOdes$Base", name := "clearColumn", desc := "(II)V" } : Jvm.MethodName)) ∈ kb := kb_1 (List.mem_of_getElem? (i := 163) rfl) rfl
theorem kw_165 : (Jvm.Cond.instanceMethod ({ cls := "RationalOdes$Base", name := "clearColumn", desc := "(II)V" } : Jvm.MethodName)) ∈ kb := kb_1 (List.mem_of_getElem? (i := 165) rfl) rfl
theorem kw_166 : (Jvm.Cond.code ({ cls := "RationalOdes$Base", name := "clearColumn", desc := "(II)V" } : Jvm.MethodName) prog_2_method_10_code (7 : Nat) (Option.none : Option Jvm.ClassFile.FieldType)) ∈ kb := kb_1 (List.mem_of_getElem? (i := 166) rfl) rfl
theorem kw_168 : (Jvm.Cond.methodLink "RationalOdes$Base" (30 : Nat) ({ cls := "RationalOdes$Base", name := "fillMember", desc := "([JI)V" } : Jvm.MethodName)) ∈ kb := kb_1 (List.mem_of_getElem? (i := 168) rfl) rfl
theorem kw_170 : (Jvm.Cond.instanceMethod ({ cls := "RationalOdes$Base", name := "fillMember", desc := "([JI)V" } : Jvm.MethodName)) ∈ kb := kb_1 (List.mem_of_getElem? (i := 170) rfl) rfl
theorem kw_171 : (Jvm.Cond.code ({ cls := "RationalOdes$Base", name := "fillMember", desc := "([JI)V" } : Jvm.MethodName) prog_2_method_11_code (4 : Nat) (Option.none : Option Jvm.ClassFile.FieldType)) ∈ kb := kb_1 (List.mem_of_getElem? (i := 171) rfl) rfl
theorem kw_172 : (Jvm.Cond.methodLink "RationalOdes$Base" (57 : Nat) ({ cls := "java/util/Arrays", name := "fill", desc := "([JJ)V" } : Jvm.MethodName)) ∈ kb := kb_1 (List.mem_of_getElem? (i := 172) rfl) rfl
theorem kw_173 : (Jvm.Cond.static ({ cls := "java/util/Arrays", name := "fill", desc := "([JJ)V" } : Jvm.MethodName)) ∈ kb := kb_1 (List.mem_of_getElem? (i := 173) rfl) rfl
theorem kw_174 : (Jvm.Cond.code ({ cls := "java/util/Arrays", name := "fill", desc := "([JJ)V" } : Jvm.MethodName) prog_15_method_101_code (5 : Nat) (Option.none : Option Jvm.ClassFile.FieldType)) ∈ kb := kb_1 (List.mem_of_getElem? (i := 174) rfl) rfl
theorem kw_175 : (Jvm.Cond.methodLink "RationalOdes" (110 : Nat) ({ cls := "RationalOdes$Base", name := "size", desc := "()I" } : Jvm.MethodName)) ∈ kb := kb_1 (List.mem_of_getElem? (i := 175) rfl) rfl
theorem kw_176 : (Jvm.Cond.instanceMethod ({ cls := "RationalOdes$Base", name := "size", desc := "()I" } : Jvm.MethodName)) ∈ kb := kb_1 (List.mem_of_getElem? (i := 176) rfl) rfl
theorem kw_177 : (Jvm.Cond.selects "RationalOdes$Base" ({ cls := "RationalOdes$Base", name := "size", desc := "()I" } : Jvm.MethodName) ({ cls := "RationalOdes$Base", name := "size", desc := "()I" } : Jvm.MethodName)) ∈ kb := kb_1 (List.mem_of_getElem? (i := 177) rfl) rfl
theorem kw_178 : (Jvm.Cond.code ({ cls := "RationalOdes$Base", name := "size", desc := "()I" } : Jvm.MethodName) prog_2_method_2_code (1 : Nat) (Option.some Jvm.ClassFile.FieldType.int)) ∈ kb := kb_1 (List.mem_of_getElem? (i := 178) rfl) rfl
theorem kw_179 : (Jvm.Cond.methodLink "RationalOdesLaw" (116 : Nat) ({ cls := "RationalOdes", name := "solves", desc := "()Z" } : Jvm.MethodName)) ∈ kb := kb_1 (List.mem_of_getElem? (i := 179) rfl) rfl
theorem kw_180 : (Jvm.Cond.instanceMethod ({ cls := "RationalOdes", name := "solves", desc := "()Z" } : Jvm.MethodName)) ∈ kb := kb_1 (List.mem_of_getElem? (i := 180) rfl) rfl
theorem kw_181 : (Jvm.Cond.selects "RationalOdes" ({ cls := "RationalOdes", name := "solves", desc := "()Z" } : Jvm.MethodName) ({ cls := "RationalOdes", name := "solves", desc := "()Z" } : Jvm.MethodName)) ∈ kb := kb_1 (List.mem_of_getElem? (i := 181) rfl) rfl
theorem kw_182 : (Jvm.Cond.code ({ cls := "RationalOdes", name := "solves", desc := "()Z" } : Jvm.MethodName) prog_1_method_13_code (2 : Nat) (Option.some Jvm.ClassFile.FieldType.boolean)) ∈ kb := kb_1 (List.mem_of_getElem? (i := 182) rfl) rfl
theorem kw_183 : (Jvm.Cond.methodLink "RationalOdesLaw" (129 : Nat) ({ cls := "RationalOdes", name := "turn", desc := "()V" } : Jvm.MethodName)) ∈ kb := kb_1 (List.mem_of_getElem? (i := 183) rfl) rfl
theorem kw_184 : (Jvm.Cond.instanceMethod ({ cls := "RationalOdes", name := "turn", desc := "()V" } : Jvm.MethodName)) ∈ kb := kb_1 (List.mem_of_getElem? (i := 184) rfl) rfl
theorem kw_185 : (Jvm.Cond.selects "RationalOdes" ({ cls := "RationalOdes", name := "turn", desc := "()V" } : Jvm.MethodName) ({ cls := "RationalOdes", name := "turn", desc := "()V" } : Jvm.MethodName)) ∈ kb := kb_1 (List.mem_of_getElem? (i := 185) rfl) rfl
theorem kw_186 : (Jvm.Cond.code ({ cls := "RationalOdes", name := "turn", desc := "()V" } : Jvm.MethodName) prog_1_method_16_code (3 : Nat) (Option.none : Option Jvm.ClassFile.FieldType)) ∈ kb := kb_1 (List.mem_of_getElem? (i := 186) rfl) rfl
theorem kw_187 : (Jvm.Cond.methodLink "RationalOdes" (140 : Nat) ({ cls := "RationalOdes", name := "adjointAt", desc := "(II)J" } : Jvm.MethodName)) ∈ kb := kb_1 (List.mem_of_getElem? (i := 187) rfl) rfl
theorem kw_189 : (Jvm.Cond.instanceMethod ({ cls := "RationalOdes", name := "adjointAt", desc := "(II)J" } : Jvm.MethodName)) ∈ kb := kb_1 (List.mem_of_getElem? (i := 189) rfl) rfl
theorem kw_190 : (Jvm.Cond.code ({ cls := "RationalOdes", name := "adjointAt", desc := "(II)J" } : Jvm.MethodName) prog_1_method_34_code (8 : Nat) (Option.some Jvm.ClassFile.FieldType.long)) ∈ kb := kb_1 (List.mem_of_getElem? (i := 190) rfl) rfl
theorem kw_191 : (Jvm.Cond.fieldLink "RationalOdes" (194 : Nat) "RationalOdes" "CHOICES" "[I") ∈ kb := kb_1 (List.mem_of_getElem? (i := 191) rfl) rfl
theorem kw_193 : (Jvm.Cond.methodLink "RationalOdes" (198 : Nat) ({ cls := "RationalOdes", name := "slopeAt", desc := "([JII)J" } : Jvm.MethodName)) ∈ kb := kb_1 (List.mem_of_getElem? (i := 193) rfl) rfl
theorem kw_194 : (Jvm.Cond.static ({ cls := "RationalOdes", name := "slopeAt", desc := "([JII)J" } : Jvm.MethodName)) ∈ kb := kb_1 (List.mem_of_getElem? (i := 194) rfl) rfl
theorem kw_195 : (Jvm.Cond.code ({ cls := "RationalOdes", name := "slopeAt", desc := "([JII)J" } : Jvm.MethodName) prog_1_method_35_code (6 : Nat) (Option.some Jvm.ClassFile.FieldType.long)) ∈ kb := kb_1 (List.mem_of_getElem? (i := 195) rfl) rfl
theorem kw_196 : (Jvm.Cond.methodLink "RationalOdes" (120 : Nat) ({ cls := "java/lang/System", name := "arraycopy", desc := "(Ljava/lang/Object;ILjava/lang/Object;II)V" } : Jvm.MethodName)) ∈ kb := kb_1 (List.mem_of_getElem? (i := 196) rfl) rfl
theorem kw_197 : (Jvm.Cond.static ({ cls := "java/lang/System", name := "arraycopy", desc := "(Ljava/lang/Object;ILjava/lang/Object;II)V" } : Jvm.MethodName)) ∈ kb := kb_1 (List.mem_of_getElem? (i := 197) rfl) rfl
theorem kw_198 : (Jvm.Cond.native ({ cls := "java/lang/System", name := "arraycopy", desc := "(Ljava/lang/Object;ILjava/lang/Object;II)V" } : Jvm.MethodName)) ∈ kb := kb_1 (List.mem_of_getElem? (i := 198) rfl) rfl
theorem kw_199 : (Jvm.Cond.methodLink "RationalOdesLaw" (133 : Nat) ({ cls := "RationalOdes", name := "move", desc := "(J)V" } : Jvm.MethodName)) ∈ kb := kb_1 (List.mem_of_getElem? (i := 199) rfl) rfl
theorem kw_200 : (Jvm.Cond.instanceMethod ({ cls := "RationalOdes", name := "move", desc := "(J)V" } : Jvm.MethodName)) ∈ kb := kb_1 (List.mem_of_getElem? (i := 200) rfl) rfl
theorem kw_201 : (Jvm.Cond.selects "RationalOdes" ({ cls := "RationalOdes", name := "move", desc := "(J)V" } : Jvm.MethodName) ({ cls := "RationalOdes", name := "move", desc := "(J)V" } : Jvm.MethodName)) ∈ kb := kb_1 (List.mem_of_getElem? (i := 201) rfl) rfl
theorem kw_202 : (Jvm.Cond.code ({ cls := "RationalOdes", name := "move", desc := "(J)V" } : Jvm.MethodName) prog_1_method_17_code (6 : Nat) (Option.none : Option Jvm.ClassFile.FieldType)) ∈ kb := kb_1 (List.mem_of_getElem? (i := 202) rfl) rfl
theorem kw_203 : (Jvm.Cond.methodLink "RationalOdes" (143 : Nat) ({ cls := "RationalOdes", name := "shift", desc := "([JJ)V" } : Jvm.MethodName)) ∈ kb := kb_1 (List.mem_of_getElem? (i := 203) rfl) rfl
theorem kw_204 : (Jvm.Cond.static ({ cls := "RationalOdes", name := "shift", desc := "([JJ)V" } : Jvm.MethodName)) ∈ kb := kb_1 (List.mem_of_getElem? (i := 204) rfl) rfl
theorem kw_205 : (Jvm.Cond.code ({ cls := "RationalOdes", name := "shift", desc := "([JJ)V" } : Jvm.MethodName) prog_1_method_41_code (5 : Nat) (Option.none : Option Jvm.ClassFile.FieldType)) ∈ kb := kb_1 (List.mem_of_getElem? (i := 205) rfl) rfl
theorem kw_206 : (Jvm.Cond.methodLink "RationalOdesLaw" (138 : Nat) ({ cls := "RationalOdes", name := "clear", desc := "()V" } : Jvm.MethodName)) ∈ kb := kb_1 (List.mem_of_getElem? (i := 206) rfl) rfl
theorem kw_207 : (Jvm.Cond.instanceMethod ({ cls := "RationalOdes", name := "clear", desc := "()V" } : Jvm.MethodName)) ∈ kb := kb_1 (List.mem_of_getElem? (i := 207) rfl) rfl
theorem kw_208 : (Jvm.Cond.selects "RationalOdes" ({ cls := "RationalOdes", name := "clear", desc := "()V" } : Jvm.MethodName) ({ cls := "RationalOdes", name := "clear", desc := "()V" } : Jvm.MethodName)) ∈ kb := kb_1 (List.mem_of_getElem? (i := 208) rfl) rfl
theorem kw_209 : (Jvm.Cond.code ({ cls := "RationalOdes", name := "clear", desc := "()V" } : Jvm.MethodName) prog_1_method_18_code (2 : Nat) (Option.none : Option Jvm.ClassFile.FieldType)) ∈ kb := kb_1 (List.mem_of_getElem? (i := 209) rfl) rfl
theorem kw_210 : (Jvm.Cond.methodLink "RationalOdes" (147 : Nat) ({ cls := "java/util/Arrays", name := "fill", desc := "([JJ)V" } : Jvm.MethodName)) ∈ kb := kb_1 (List.mem_of_getElem? (i := 210) rfl) rfl
theorem kw_211 : (Jvm.Cond.methodLink "RationalOdesLaw" (58 : Nat) ({ cls := "RationalOdesLaw", name := "cell", desc := "([II)I" } : Jvm.MethodName)) ∈ kb := kb_1 (List.mem_of_getElem? (i := 211) rfl) rfl
theorem kw_212 : (Jvm.Cond.static ({ cls := "RationalOdesLaw", name := "cell", desc := "([II)I" } : Jvm.MethodName)) ∈ kb := kb_1 (List.mem_of_getElem? (i := 212) rfl) rfl
theorem kw_213 : (Jvm.Cond.code ({ cls := "RationalOdesLaw", name := "cell", desc := "([II)I" } : Jvm.MethodName) method_2_code (2 : Nat) (Option.some Jvm.ClassFile.FieldType.int)) ∈ kb := kb_1 (List.mem_of_getElem? (i := 213) rfl) rfl
theorem kw_214 : (Jvm.Cond.methodLink "RationalOdesLaw" (71 : Nat) ({ cls := "RationalOdesLaw", name := "put", desc := "(LRationalOdes;IIJ[J)I" } : Jvm.MethodName)) ∈ kb := kb_1 (List.mem_of_getElem? (i := 214) rfl) rfl
theorem kw_215 : (Jvm.Cond.static ({ cls := "RationalOdesLaw", name := "put", desc := "(LRationalOdes;IIJ[J)I" } : Jvm.MethodName)) ∈ kb := kb_1 (List.mem_of_getElem? (i := 215) rfl) rfl
theorem kw_216 : (Jvm.Cond.codeWith ({ cls := "RationalOdesLaw", name := "put", desc := "(LRationalOdes;IIJ[J)I" } : Jvm.MethodName) method_3_code (7 : Nat) (Option.some Jvm.ClassFile.FieldType.int) [((0 : Nat), (19 : Nat), (22 : Nat), (13 : Nat))]) ∈ kb := kb_1 (List.mem_of_getElem? (i := 216) rfl) rfl
theorem kw_218 : (Jvm.Cond.methodLink "RationalOdesLaw" (7 : Nat) ({ cls := "RationalOdes", name := "put", desc := "(IIJ)Z" } : Jvm.MethodName)) ∈ kb := kb_1 (List.mem_of_getElem? (i := 218) rfl) rfl
theorem kw_219 : (Jvm.Cond.instanceMethod ({ cls := "RationalOdes", name := "put", desc := "(IIJ)Z" } : Jvm.MethodName)) ∈ kb := kb_1 (List.mem_of_getElem? (i := 219) rfl) rfl
theorem kw_220 : (Jvm.Cond.selects "RationalOdes" ({ cls := "RationalOdes", name := "put", desc := "(IIJ)Z" } : Jvm.MethodName) ({ cls := "RationalOdes", name := "put", desc := "(IIJ)Z" } : Jvm.MethodName)) ∈ kb := kb_1 (List.mem_of_getElem? (i := 220) rfl) rfl
theorem kw_221 : (Jvm.Cond.code ({ cls := "RationalOdes", name := "put", desc := "(IIJ)Z" } : Jvm.MethodName) prog_1_method_2_code (7 : Nat) (Option.some Jvm.ClassFile.FieldType.boolean)) ∈ kb := kb_1 (List.mem_of_getElem? (i := 221) rfl) rfl
theorem kw_222 : (Jvm.Cond.methodLink "RationalOdes" (58 : Nat) ({ cls := "RationalOdes", name := "needFactorPower", desc := "(II)V" } : Jvm.MethodName)) ∈ kb := kb_1 (List.mem_of_getElem? (i := 222) rfl) rfl
theorem kw_224 : (Jvm.Cond.instanceMethod ({ cls := "RationalOdes", name := "needFactorPower", desc := "(II)V" } : Jvm.MethodName)) ∈ kb := kb_1 (List.mem_of_getElem? (i := 224) rfl) rfl
theorem kw_225 : (Jvm.Cond.code ({ cls := "RationalOdes", name := "needFactorPower", desc := "(II)V" } : Jvm.MethodName) prog_1_method_19_code (3 : Nat) (Option.none : Option Jvm.ClassFile.FieldType)) ∈ kb := kb_1 (List.mem_of_getElem? (i := 225) rfl) rfl
theorem kw_293 : (Jvm.Cond.arrayClass Jvm.ClassFile.FieldType.byte) ∈ kb := kb_2 (List.mem_of_getElem? (i := 53) rfl) rfl
theorem kw_294 : (Jvm.Cond.methodLink "RationalOdesLaw" (78 : Nat) ({ cls := "RationalOdesLaw", name := "at", desc := "(LRationalOdes;II[J)I" } : Jvm.MethodName)) ∈ kb := kb_2 (List.mem_of_getElem? (i := 54) rfl) rfl
theorem kw_295 : (Jvm.Cond.static ({ cls := "RationalOdesLaw", name := "at", desc := "(LRationalOdes;II[J)I" } : Jvm.MethodName)) ∈ kb := kb_2 (List.mem_of_getElem? (i := 55) rfl) rfl
theorem kw_296 : (Jvm.Cond.codeWith ({ cls := "RationalOdesLaw", name := "at", desc := "(LRationalOdes;II[J)I" } : Jvm.MethodName) method_4_code (5 : Nat) (Option.some Jvm.ClassFile.FieldType.int) [((0 : Nat), (10 : Nat), (13 : Nat), (13 : Nat))]) ∈ kb := kb_2 (List.mem_of_getElem? (i := 56) rfl) rfl
theorem kw_297 : (Jvm.Cond.methodLink "RationalOdesLaw" (15 : Nat) ({ cls := "RationalOdes", name := "at", desc := "(II)I" } : Jvm.MethodName)) ∈ kb := kb_2 (List.mem_of_getElem? (i := 57) rfl) rfl
theorem kw_298 : (Jvm.Cond.instanceMethod ({ cls := "RationalOdes", name := "at", desc := "(II)I" } : Jvm.MethodName)) ∈ kb := kb_2 (List.mem_of_getElem? (i := 58) rfl) rfl
theorem kw_299 : (Jvm.Cond.selects "RationalOdes" ({ cls := "RationalOdes", name := "at", desc := "(II)I" } : Jvm.MethodName) ({ cls := "RationalOdes", name := "at", desc := "(II)I" } : Jvm.MethodName)) ∈ kb := kb_2 (List.mem_of_getElem? (i := 59) rfl) rfl
theorem kw_300 : (Jvm.Cond.code ({ cls := "RationalOdes", name := "at", desc := "(II)I" } : Jvm.MethodName) prog_1_method_3_code (3 : Nat) (Option.some Jvm.ClassFile.FieldType.int)) ∈ kb := kb_2 (List.mem_of_getElem? (i := 60) rfl) rfl
theorem kw_301 : (Jvm.Cond.methodLink "RationalOdesLaw" (82 : Nat) ({ cls := "RationalOdesLaw", name := "hand", desc := "(LRationalOdes;IJ)I" } : Jvm.MethodName)) ∈ kb := kb_2 (List.mem_of_getElem? (i := 61) rfl) rfl
theorem kw_302 : (Jvm.Cond.static ({ cls := "RationalOdesLaw", name := "hand", desc := "(LRationalOdes;IJ)I" } : Jvm.MethodName)) ∈ kb := kb_2 (List.mem_of_getElem? (i := 62) rfl) rfl
theorem kw_303 : (Jvm.Cond.codeWith ({ cls := "RationalOdesLaw", name := "hand", desc := "(LRationalOdes;IJ)I" } : Jvm.MethodName) method_5_code (5 : Nat) (Option.some Jvm.ClassFile.FieldType.int) [((0 : Nat), (6 : Nat), (9 : Nat), (13 : Nat))]) ∈ kb := kb_2 (List.mem_of_getElem? (i := 63) rfl) rfl
theorem kw_304 : (Jvm.Cond.methodLink "RationalOdesLaw" (19 : Nat) ({ cls := "RationalOdes", name := "hand", desc := "(IJ)V" } : Jvm.MethodName)) ∈ kb := kb_2 (List.mem_of_getElem? (i := 64) rfl) rfl
theorem kw_305 : (Jvm.Cond.instanceMethod ({ cls := "RationalOdes", name := "hand", desc := "(IJ)V" } : Jvm.MethodName)) ∈ kb := kb_2 (List.mem_of_getElem? (i := 65) rfl) rfl
theorem kw_306 : (Jvm.Cond.selects "RationalOdes" ({ cls := "RationalOdes", name := "hand", desc := "(IJ)V" } : Jvm.MethodName) ({ cls := "RationalOdes", name := "hand", desc := "(IJ)V" } : Jvm.MethodName)) ∈ kb := kb_2 (List.mem_of_getElem? (i := 66) rfl) rfl
theorem kw_307 : (Jvm.Cond.code ({ cls := "RationalOdes", name := "hand", desc := "(IJ)V" } : Jvm.MethodName) prog_1_method_4_code (4 : Nat) (Option.none : Option Jvm.ClassFile.FieldType)) ∈ kb := kb_2 (List.mem_of_getElem? (i := 67) rfl) rfl
theorem kw_308 : (Jvm.Cond.methodLink "RationalOdes" (66 : Nat) ({ cls := "RationalOdes", name := "needHandPower", desc := "(I)V" } : Jvm.MethodName)) ∈ kb := kb_2 (List.mem_of_getElem? (i := 68) rfl) rfl
theorem kw_310 : (Jvm.Cond.instanceMethod ({ cls := "RationalOdes", name := "needHandPower", desc := "(I)V" } : Jvm.MethodName)) ∈ kb := kb_2 (List.mem_of_getElem? (i := 70) rfl) rfl
theorem kw_311 : (Jvm.Cond.code ({ cls := "RationalOdes", name := "needHandPower", desc := "(I)V" } : Jvm.MethodName) prog_1_method_20_code (2 : Nat) (Option.none : Option Jvm.ClassFile.FieldType)) ∈ kb := kb_2 (List.mem_of_getElem? (i := 71) rfl) rfl
theorem kw_313 : (Jvm.Cond.methodLink "RationalOdesLaw" (90 : Nat) ({ cls := "RationalOdesLaw", name := "places", desc := "(LRationalOdes;[J)I" } : Jvm.MethodName)) ∈ kb := kb_2 (List.mem_of_getElem? (i := 73) rfl) rfl
theorem kw_314 : (Jvm.Cond.static ({ cls := "RationalOdesLaw", name := "places", desc := "(LRationalOdes;[J)I" } : Jvm.MethodName)) ∈ kb := kb_2 (List.mem_of_getElem? (i := 74) rfl) rfl
theorem kw_315 : (Jvm.Cond.codeWith ({ cls := "RationalOdesLaw", name := "places", desc := "(LRationalOdes;[J)I" } : Jvm.MethodName) method_6_code (3 : Nat) (Option.some Jvm.ClassFile.FieldType.int) [((0 : Nat), (8 : Nat), (11 : Nat), (27 : Nat))]) ∈ kb := kb_2 (List.mem_of_getElem? (i := 75) rfl) rfl
theorem kw_317 : (Jvm.Cond.methodLink "RationalOdesLaw" (23 : Nat) ({ cls := "RationalOdes", name := "places", desc := "()I" } : Jvm.MethodName)) ∈ kb := kb_2 (List.mem_of_getElem? (i := 77) rfl) rfl
theorem kw_318 : (Jvm.Cond.instanceMethod ({ cls := "RationalOdes", name := "places", desc := "()I" } : Jvm.MethodName)) ∈ kb := kb_2 (List.mem_of_getElem? (i := 78) rfl) rfl
theorem kw_319 : (Jvm.Cond.selects "RationalOdes" ({ cls := "RationalOdes", name := "places", desc := "()I" } : Jvm.MethodName) ({ cls := "RationalOdes", name := "places", desc := "()I" } : Jvm.MethodName)) ∈ kb := kb_2 (List.mem_of_getElem? (i := 79) rfl) rfl
theorem kw_320 : (Jvm.Cond.code ({ cls := "RationalOdes", name := "places", desc := "()I" } : Jvm.MethodName) prog_1_method_6_code (1 : Nat) (Option.some Jvm.ClassFile.FieldType.int)) ∈ kb := kb_2 (List.mem_of_getElem? (i := 80) rfl) rfl
theorem kw_321 : (Jvm.Cond.methodLink "RationalOdes" (74 : Nat) ({ cls := "RationalOdes", name := "findPlaces", desc := "()V" } : Jvm.MethodName)) ∈ kb := kb_2 (List.mem_of_getElem? (i := 81) rfl) rfl
theorem kw_323 : (Jvm.Cond.instanceMethod ({ cls := "RationalOdes", name := "findPlaces", desc := "()V" } : Jvm.MethodName)) ∈ kb := kb_2 (List.mem_of_getElem? (i := 83) rfl) rfl
theorem kw_324 : (Jvm.Cond.code ({ cls := "RationalOdes", name := "findPlaces", desc := "()V" } : Jvm.MethodName) prog_1_method_22_code (1 : Nat) (Option.none : Option Jvm.ClassFile.FieldType)) ∈ kb := kb_2 (List.mem_of_getElem? (i := 84) rfl) rfl
theorem kw_325 : (Jvm.Cond.methodLink "RationalOdes" (158 : Nat) ({ cls := "RationalOdes", name := "isZero", desc := "([J)Z" } : Jvm.MethodName)) ∈ kb := kb_2 (List.mem_of_getElem? (i := 85) rfl) rfl
theorem kw_326 : (Jvm.Cond.static ({ cls := "RationalOdes", name := "isZero", desc := "([J)Z" } : Jvm.MethodName)) ∈ kb := kb_2 (List.mem_of_getElem? (i := 86) rfl) rfl
theorem kw_327 : (Jvm.Cond.code ({ cls := "RationalOdes", name := "isZero", desc := "([J)Z" } : Jvm.MethodName) prog_1_method_39_code (1 : Nat) (Option.some Jvm.ClassFile.FieldType.boolean)) ∈ kb := kb_2 (List.mem_of_getElem? (i := 87) rfl) rfl
theorem kw_328 : (Jvm.Cond.methodLink "RationalOdes" (211 : Nat) ({ cls := "RationalOdes", name := "degree", desc := "([J)I" } : Jvm.MethodName)) ∈ kb := kb_2 (List.mem_of_getElem? (i := 88) rfl) rfl
theorem kw_329 : (Jvm.Cond.static ({ cls := "RationalOdes", name := "degree", desc := "([J)I" } : Jvm.MethodName)) ∈ kb := kb_2 (List.mem_of_getElem? (i := 89) rfl) rfl
theorem kw_330 : (Jvm.Cond.code ({ cls := "RationalOdes", name := "degree", desc := "([J)I" } : Jvm.MethodName) prog_1_method_40_code (2 : Nat) (Option.some Jvm.ClassFile.FieldType.int)) ∈ kb := kb_2 (List.mem_of_getElem? (i := 90) rfl) rfl
theorem kw_347 : (Jvm.Cond.methodLink "RationalOdes" (103 : Nat) ({ cls := "RationalOdes$Roots", name := "find", desc := "([J)V" } : Jvm.MethodName)) ∈ kb := kb_2 (List.mem_of_getElem? (i := 107) rfl) rfl
theorem kw_348 : (Jvm.Cond.instanceMethod ({ cls := "RationalOdes$Roots", name := "find", desc := "([J)V" } : Jvm.MethodName)) ∈ kb := kb_2 (List.mem_of_getElem? (i := 108) rfl) rfl
theorem kw_349 : (Jvm.Cond.selects "RationalOdes$Roots" ({ cls := "RationalOdes$Roots", name := "find", desc := "([J)V" } : Jvm.MethodName) ({ cls := "RationalOdes$Roots", name := "find", desc := "([J)V" } : Jvm.MethodName)) ∈ kb := kb_2 (List.mem_of_getElem? (i := 109) rfl) rfl
theorem kw_350 : (Jvm.Cond.code ({ cls := "RationalOdes$Roots", name := "find", desc := "([J)V" } : Jvm.MethodName) prog_3_method_4_code (5 : Nat) (Option.none : Option Jvm.ClassFile.FieldType)) ∈ kb := kb_2 (List.mem_of_getElem? (i := 110) rfl) rfl
theorem kw_352 : (Jvm.Cond.methodLink "RationalOdes$Roots" (41 : Nat) ({ cls := "RationalOdes$Roots", name := "copy", desc := "([J[J)V" } : Jvm.MethodName)) ∈ kb := kb_2 (List.mem_of_getElem? (i := 112) rfl) rfl
theorem kw_353 : (Jvm.Cond.static ({ cls := "RationalOdes$Roots", name := "copy", desc := "([J[J)V" } : Jvm.MethodName)) ∈ kb := kb_2 (List.mem_of_getElem? (i := 113) rfl) rfl
theorem kw_354 : (Jvm.Cond.code ({ cls := "RationalOdes$Roots", name := "copy", desc := "([J[J)V" } : Jvm.MethodName) prog_3_method_15_code (2 : Nat) (Option.none : Option Jvm.ClassFile.FieldType)) ∈ kb := kb_2 (List.mem_of_getElem? (i := 114) rfl) rfl
theorem kw_355 : (Jvm.Cond.methodLink "RationalOdes$Roots" (100 : Nat) ({ cls := "java/lang/System", name := "arraycopy", desc := "(Ljava/lang/Object;ILjava/lang/Object;II)V" } : Jvm.MethodName)) ∈ kb := kb_2 (List.mem_of_getElem? (i := 115) rfl) rfl
theorem kw_356 : (Jvm.Cond.methodLink "RationalOdes$Roots" (45 : Nat) ({ cls := "RationalOdes$Roots", name := "makeMonic", desc := "([J)V" } : Jvm.MethodName)) ∈ kb := kb_2 (List.mem_of_getElem? (i := 116) rfl) rfl
theorem kw_357 : (Jvm.Cond.static ({ cls := "RationalOdes$Roots", name := "makeMonic", desc := "([J)V" } : Jvm.MethodName)) ∈ kb := kb_2 (List.mem_of_getElem? (i := 117) rfl) rfl
theorem kw_358 : (Jvm.Cond.code ({ cls := "RationalOdes$Roots", name := "makeMonic", desc := "([J)V" } : Jvm.MethodName) prog_3_method_14_code (5 : Nat) (Option.none : Option Jvm.ClassFile.FieldType)) ∈ kb := kb_2 (List.mem_of_getElem? (i := 118) rfl) rfl
theorem kw_360 : (Jvm.Cond.constantLong "RationalOdes$Roots" (75 : Nat) (32003 : Int64)) ∈ kb := kb_2 (List.mem_of_getElem? (i := 120) rfl) rfl
theorem kw_361 : (Jvm.Cond.methodLink "RationalOdes$Roots" (49 : Nat) ({ cls := "RationalOdes$Roots", name := "keepRootsOnce", desc := "()V" } : Jvm.MethodName)) ∈ kb := kb_2 (List.mem_of_getElem? (i := 121) rfl) rfl
theorem kw_363 : (Jvm.Cond.instanceMethod ({ cls := "RationalOdes$Roots", name := "keepRootsOnce", desc := "()V" } : Jvm.MethodName)) ∈ kb := kb_2 (List.mem_of_getElem? (i := 123) rfl) rfl
theorem kw_364 : (Jvm.Cond.code ({ cls := "RationalOdes$Roots", name := "keepRootsOnce", desc := "()V" } : Jvm.MethodName) prog_3_method_5_code (1 : Nat) (Option.none : Option Jvm.ClassFile.FieldType)) ∈ kb := kb_2 (List.mem_of_getElem? (i := 124) rfl) rfl
theorem kw_365 : (Jvm.Cond.methodLink "RationalOdes$Roots" (63 : Nat) ({ cls := "RationalOdes$Roots", name := "raise", desc := "(JI[J)V" } : Jvm.MethodName)) ∈ kb := kb_2 (List.mem_of_getElem? (i := 125) rfl) rfl
theorem kw_367 : (Jvm.Cond.instanceMethod ({ cls := "RationalOdes$Roots", name := "raise", desc := "(JI[J)V" } : Jvm.MethodName)) ∈ kb := kb_2 (List.mem_of_getElem? (i := 127) rfl) rfl
theorem kw_368 : (Jvm.Cond.code ({ cls := "RationalOdes$Roots", name := "raise", desc := "(JI[J)V" } : Jvm.MethodName) prog_3_method_9_code (7 : Nat) (Option.none : Option Jvm.ClassFile.FieldType)) ∈ kb := kb_2 (List.mem_of_getElem? (i := 128) rfl) rfl
theorem kw_369 : (Jvm.Cond.methodLink "RationalOdes$Roots" (77 : Nat) ({ cls := "java/util/Arrays", name := "fill", desc := "([JJ)V" } : Jvm.MethodName)) ∈ kb := kb_2 (List.mem_of_getElem? (i := 129) rfl) rfl
theorem kw_370 : (Jvm.Cond.methodLink "RationalOdes$Roots" (83 : Nat) ({ cls := "RationalOdes$Roots", name := "squareRaised", desc := "(I)V" } : Jvm.MethodName)) ∈ kb := kb_2 (List.mem_of_getElem? (i := 130) rfl) rfl
theorem kw_372 : (Jvm.Cond.instanceMethod ({ cls := "RationalOdes$Roots", name := "squareRaised", desc := "(I)V" } : Jvm.MethodName)) ∈ kb := kb_2 (List.mem_of_getElem? (i := 132) rfl) rfl
theorem kw_373 : (Jvm.Cond.code ({ cls := "RationalOdes$Roots", name := "squareRaised", desc := "(I)V" } : Jvm.MethodName) prog_3_method_10_code (4 : Nat) (Option.none : Option Jvm.ClassFile.FieldType)) ∈ kb := kb_2 (List.mem_of_getElem? (i := 133) rfl) rfl
theorem kw_374 : (Jvm.Cond.methodLink "RationalOdes$Roots" (87 : Nat) ({ cls := "RationalOdes$Roots", name := "timesLine", desc := "(J)V" } : Jvm.MethodName)) ∈ kb := kb_2 (List.mem_of_getElem? (i := 134) rfl) rfl
theorem kw_376 : (Jvm.Cond.instanceMethod ({ cls := "RationalOdes$Roots", name := "timesLine", desc := "(J)V" } : Jvm.MethodName)) ∈ kb := kb_2 (List.mem_of_getElem? (i := 136) rfl) rfl
theorem kw_377 : (Jvm.Cond.code ({ cls := "RationalOdes$Roots", name := "timesLine", desc := "(J)V" } : Jvm.MethodName) prog_3_method_11_code (4 : Nat) (Option.none : Option Jvm.ClassFile.FieldType)) ∈ kb := kb_2 (List.mem_of_getElem? (i := 137) rfl) rfl
theorem kw_378 : (Jvm.Cond.methodLink "RationalOdes$Roots" (90 : Nat) ({ cls := "RationalOdes$Roots", name := "takeMultiples", desc := "([J[J)V" } : Jvm.MethodName)) ∈ kb := kb_2 (List.mem_of_getElem? (i := 138) rfl) rfl
theorem kw_379 : (Jvm.Cond.static ({ cls := "RationalOdes$Roots", name := "takeMultiples", desc := "([J[J)V" } : Jvm.MethodName)) ∈ kb := kb_2 (List.mem_of_getElem? (i := 139) rfl) rfl
theorem kw_380 : (Jvm.Cond.code ({ cls := "RationalOdes$Roots", name := "takeMultiples", desc := "([J[J)V" } : Jvm.MethodName) prog_3_method_13_code (8 : Nat) (Option.none : Option Jvm.ClassFile.FieldType)) ∈ kb := kb_2 (List.mem_of_getElem? (i := 140) rfl) rfl
theorem kw_382 : (Jvm.Cond.methodLink "RationalOdes$Roots" (71 : Nat) ({ cls := "RationalOdes$Roots", name := "commonWithRaised", desc := "([J)[J" } : Jvm.MethodName)) ∈ kb := kb_2 (List.mem_of_getElem? (i := 142) rfl) rfl
theorem kw_384 : (Jvm.Cond.instanceMethod ({ cls := "RationalOdes$Roots", name := "commonWithRaised", desc := "([J)[J" } : Jvm.MethodName)) ∈ kb := kb_2 (List.mem_of_getElem? (i := 144) rfl) rfl
theorem kw_385 : (Jvm.Cond.code ({ cls := "RationalOdes$Roots", name := "commonWithRaised", desc := "([J)[J" } : Jvm.MethodName) prog_3_method_12_code (6 : Nat) (Option.some (Jvm.ClassFile.FieldType.array Jvm.ClassFile.FieldType.long))) ∈ kb := kb_2 (List.mem_of_getElem? (i := 145) rfl) rfl
theorem kw_387 : (Jvm.Cond.methodLink "RationalOdes$Roots" (52 : Nat) ({ cls := "RationalOdes$Roots", name := "oneRoot", desc := "()J" } : Jvm.MethodName)) ∈ kb := kb_2 (List.mem_of_getElem? (i := 147) rfl) rfl
theorem kw_389 : (Jvm.Cond.instanceMethod ({ cls := "RationalOdes$Roots", name := "oneRoot", desc := "()J" } : Jvm.MethodName)) ∈ kb := kb_2 (List.mem_of_getElem? (i := 149) rfl) rfl
theorem kw_390 : (Jvm.Cond.code ({ cls := "RationalOdes$Roots", name := "oneRoot", desc := "()J" } : Jvm.MethodName) prog_3_method_6_code (3 : Nat) (Option.some Jvm.ClassFile.FieldType.long)) ∈ kb := kb_2 (List.mem_of_getElem? (i := 150) rfl) rfl
theorem kw_391 : (Jvm.Cond.methodLink "RationalOdes$Roots" (56 : Nat) ({ cls := "RationalOdes$Roots", name := "insert", desc := "(J)V" } : Jvm.MethodName)) ∈ kb := kb_2 (List.mem_of_getElem? (i := 151) rfl) rfl
theorem kw_393 : (Jvm.Cond.instanceMethod ({ cls := "RationalOdes$Roots", name := "insert", desc := "(J)V" } : Jvm.MethodName)) ∈ kb := kb_2 (List.mem_of_getElem? (i := 153) rfl) rfl
theorem kw_394 : (Jvm.Cond.code ({ cls := "RationalOdes$Roots", name := "insert", desc := "(J)V" } : Jvm.MethodName) prog_3_method_7_code (4 : Nat) (Option.none : Option Jvm.ClassFile.FieldType)) ∈ kb := kb_2 (List.mem_of_getElem? (i := 154) rfl) rfl
theorem kw_395 : (Jvm.Cond.methodLink "RationalOdes$Roots" (60 : Nat) ({ cls := "RationalOdes$Roots", name := "divideOut", desc := "(J)V" } : Jvm.MethodName)) ∈ kb := kb_2 (List.mem_of_getElem? (i := 155) rfl) rfl
theorem kw_397 : (Jvm.Cond.instanceMethod ({ cls := "RationalOdes$Roots", name := "divideOut", desc := "(J)V" } : Jvm.MethodName)) ∈ kb := kb_2 (List.mem_of_getElem? (i := 157) rfl) rfl
theorem kw_398 : (Jvm.Cond.code ({ cls := "RationalOdes$Roots", name := "divideOut", desc := "(J)V" } : Jvm.MethodName) prog_3_method_8_code (8 : Nat) (Option.none : Option Jvm.ClassFile.FieldType)) ∈ kb := kb_2 (List.mem_of_getElem? (i := 158) rfl) rfl
theorem kw_399 : (Jvm.Cond.methodLink "RationalOdes" (77 : Nat) ({ cls := "RationalOdes$Roots", name := "howMany", desc := "()I" } : Jvm.MethodName)) ∈ kb := kb_2 (List.mem_of_getElem? (i := 159) rfl) rfl
theorem kw_400 : (Jvm.Cond.instanceMethod ({ cls := "RationalOdes$Roots", name := "howMany", desc := "()I" } : Jvm.MethodName)) ∈ kb := kb_2 (List.mem_of_getElem? (i := 160) rfl) rfl
theorem kw_401 : (Jvm.Cond.selects "RationalOdes$Roots" ({ cls := "RationalOdes$Roots", name := "howMany", desc := "()I" } : Jvm.MethodName) ({ cls := "RationalOdes$Roots", name := "howMany", desc := "()I" } : Jvm.MethodName)) ∈ kb := kb_2 (List.mem_of_getElem? (i := 161) rfl) rfl
theorem kw_402 : (Jvm.Cond.code ({ cls := "RationalOdes$Roots", name := "howMany", desc := "()I" } : Jvm.MethodName) prog_3_method_2_code (1 : Nat) (Option.some Jvm.ClassFile.FieldType.int)) ∈ kb := kb_2 (List.mem_of_getElem? (i := 162) rfl) rfl
theorem kw_403 : (Jvm.Cond.methodLink "RationalOdesLaw" (94 : Nat) ({ cls := "RationalOdesLaw", name := "place", desc := "(LRationalOdes;I[J)I" } : Jvm.MethodName)) ∈ kb := kb_2 (List.mem_of_getElem? (i := 163) rfl) rfl
theorem kw_404 : (Jvm.Cond.static ({ cls := "RationalOdesLaw", name := "place", desc := "(LRationalOdes;I[J)I" } : Jvm.MethodName)) ∈ kb := kb_2 (List.mem_of_getElem? (i := 164) rfl) rfl
theorem kw_405 : (Jvm.Cond.codeWith ({ cls := "RationalOdesLaw", name := "place", desc := "(LRationalOdes;I[J)I" } : Jvm.MethodName) method_7_code (4 : Nat) (Option.some Jvm.ClassFile.FieldType.int) [((0 : Nat), (9 : Nat), (12 : Nat), (27 : Nat)), ((0 : Nat), (9 : Nat), (15 : Nat), (13 : Nat))]) ∈ kb := kb_2 (List.mem_of_getElem? (i := 165) rfl) rfl
theorem kw_406 : (Jvm.Cond.methodLink "RationalOdesLaw" (29 : Nat) ({ cls := "RationalOdes", name := "place", desc := "(I)I" } : Jvm.MethodName)) ∈ kb := kb_2 (List.mem_of_getElem? (i := 166) rfl) rfl
theorem kw_407 : (Jvm.Cond.instanceMethod ({ cls := "RationalOdes", name := "place", desc := "(I)I" } : Jvm.MethodName)) ∈ kb := kb_2 (List.mem_of_getElem? (i := 167) rfl) rfl
theorem kw_408 : (Jvm.Cond.selects "RationalOdes" ({ cls := "RationalOdes", name := "place", desc := "(I)I" } : Jvm.MethodName) ({ cls := "RationalOdes", name := "place", desc := "(I)I" } : Jvm.MethodName)) ∈ kb := kb_2 (List.mem_of_getElem? (i := 168) rfl) rfl
theorem kw_409 : (Jvm.Cond.code ({ cls := "RationalOdes", name := "place", desc := "(I)I" } : Jvm.MethodName) prog_1_method_7_code (2 : Nat) (Option.some Jvm.ClassFile.FieldType.int)) ∈ kb := kb_2 (List.mem_of_getElem? (i := 169) rfl) rfl
theorem kw_411 : (Jvm.Cond.methodLink "RationalOdes" (88 : Nat) ({ cls := "RationalOdes$Roots", name := "orNone", desc := "(I)I" } : Jvm.MethodName)) ∈ kb := kb_2 (List.mem_of_getElem? (i := 171) rfl) rfl
theorem kw_412 : (Jvm.Cond.instanceMethod ({ cls := "RationalOdes$Roots", name := "orNone", desc := "(I)I" } : Jvm.MethodName)) ∈ kb := kb_2 (List.mem_of_getElem? (i := 172) rfl) rfl
theorem kw_413 : (Jvm.Cond.selects "RationalOdes$Roots" ({ cls := "RationalOdes$Roots", name := "orNone", desc := "(I)I" } : Jvm.MethodName) ({ cls := "RationalOdes$Roots", name := "orNone", desc := "(I)I" } : Jvm.MethodName)) ∈ kb := kb_2 (List.mem_of_getElem? (i := 173) rfl) rfl
theorem kw_414 : (Jvm.Cond.code ({ cls := "RationalOdes$Roots", name := "orNone", desc := "(I)I" } : Jvm.MethodName) prog_3_method_3_code (2 : Nat) (Option.some Jvm.ClassFile.FieldType.int)) ∈ kb := kb_2 (List.mem_of_getElem? (i := 174) rfl) rfl
theorem kw_415 : (Jvm.Cond.methodLink "RationalOdesLaw" (98 : Nat) ({ cls := "RationalOdesLaw", name := "level", desc := "(LRationalOdes;ZJ[J)I" } : Jvm.MethodName)) ∈ kb := kb_2 (List.mem_of_getElem? (i := 175) rfl) rfl
theorem kw_416 : (Jvm.Cond.static ({ cls := "RationalOdesLaw", name := "level", desc := "(LRationalOdes;ZJ[J)I" } : Jvm.MethodName)) ∈ kb := kb_2 (List.mem_of_getElem? (i := 176) rfl) rfl
theorem kw_417 : (Jvm.Cond.codeWith ({ cls := "RationalOdesLaw", name := "level", desc := "(LRationalOdes;ZJ[J)I" } : Jvm.MethodName) method_8_code (6 : Nat) (Option.some Jvm.ClassFile.FieldType.int) [((0 : Nat), (11 : Nat), (14 : Nat), (27 : Nat))]) ∈ kb := kb_2 (List.mem_of_getElem? (i := 177) rfl) rfl
theorem kw_418 : (Jvm.Cond.methodLink "RationalOdesLaw" (33 : Nat) ({ cls := "RationalOdes", name := "level", desc := "(ZJ)I" } : Jvm.MethodName)) ∈ kb := kb_2 (List.mem_of_getElem? (i := 178) rfl) rfl
theorem kw_419 : (Jvm.Cond.instanceMethod ({ cls := "RationalOdes", name := "level", desc := "(ZJ)I" } : Jvm.MethodName)) ∈ kb := kb_2 (List.mem_of_getElem? (i := 179) rfl) rfl
theorem kw_420 : (Jvm.Cond.selects "RationalOdes" ({ cls := "RationalOdes", name := "level", desc := "(ZJ)I" } : Jvm.MethodName) ({ cls := "RationalOdes", name := "level", desc := "(ZJ)I" } : Jvm.MethodName)) ∈ kb := kb_2 (List.mem_of_getElem? (i := 180) rfl) rfl
theorem kw_421 : (Jvm.Cond.code ({ cls := "RationalOdes", name := "level", desc := "(ZJ)I" } : Jvm.MethodName) prog_1_method_8_code (4 : Nat) (Option.some Jvm.ClassFile.FieldType.int)) ∈ kb := kb_2 (List.mem_of_getElem? (i := 181) rfl) rfl
theorem kw_422 : (Jvm.Cond.methodLink "RationalOdes" (92 : Nat) ({ cls := "RationalOdes", name := "goTo", desc := "(ZJ)I" } : Jvm.MethodName)) ∈ kb := kb_2 (List.mem_of_getElem? (i := 182) rfl) rfl
theorem kw_424 : (Jvm.Cond.instanceMethod ({ cls := "RationalOdes", name := "goTo", desc := "(ZJ)I" } : Jvm.MethodName)) ∈ kb := kb_2 (List.mem_of_getElem? (i := 184) rfl) rfl
theorem kw_425 : (Jvm.Cond.code ({ cls := "RationalOdes", name := "goTo", desc := "(ZJ)I" } : Jvm.MethodName) prog_1_method_23_code (4 : Nat) (Option.some Jvm.ClassFile.FieldType.int)) ∈ kb := kb_2 (List.mem_of_getElem? (i := 185) rfl) rfl
theorem kw_426 : (Jvm.Cond.methodLink "RationalOdes" (167 : Nat) ({ cls := "RationalOdes", name := "allZero", desc := "()Z" } : Jvm.MethodName)) ∈ kb := kb_2 (List.mem_of_getElem? (i := 186) rfl) rfl
theorem kw_428 : (Jvm.Cond.instanceMethod ({ cls := "RationalOdes", name := "allZero", desc := "()Z" } : Jvm.MethodName)) ∈ kb := kb_2 (List.mem_of_getElem? (i := 188) rfl) rfl
theorem kw_429 : (Jvm.Cond.code ({ cls := "RationalOdes", name := "allZero", desc := "()Z" } : Jvm.MethodName) prog_1_method_24_code (2 : Nat) (Option.some Jvm.ClassFile.FieldType.boolean)) ∈ kb := kb_2 (List.mem_of_getElem? (i := 189) rfl) rfl
theorem kw_431 : (Jvm.Cond.methodLink "RationalOdes" (128 : Nat) ({ cls := "RationalOdes", name := "shiftToOther", desc := "(J)V" } : Jvm.MethodName)) ∈ kb := kb_2 (List.mem_of_getElem? (i := 191) rfl) rfl
theorem kw_433 : (Jvm.Cond.instanceMethod ({ cls := "RationalOdes", name := "shiftToOther", desc := "(J)V" } : Jvm.MethodName)) ∈ kb := kb_2 (List.mem_of_getElem? (i := 193) rfl) rfl
theorem kw_434 : (Jvm.Cond.code ({ cls := "RationalOdes", name := "shiftToOther", desc := "(J)V" } : Jvm.MethodName) prog_1_method_30_code (4 : Nat) (Option.none : Option Jvm.ClassFile.FieldType)) ∈ kb := kb_2 (List.mem_of_getElem? (i := 194) rfl) rfl
theorem kw_435 : (Jvm.Cond.methodLink "RationalOdes" (173 : Nat) ({ cls := "RationalOdes", name := "greatestGap", desc := "()I" } : Jvm.MethodName)) ∈ kb := kb_2 (List.mem_of_getElem? (i := 195) rfl) rfl
theorem kw_437 : (Jvm.Cond.instanceMethod ({ cls := "RationalOdes", name := "greatestGap", desc := "()I" } : Jvm.MethodName)) ∈ kb := kb_2 (List.mem_of_getElem? (i := 197) rfl) rfl
theorem kw_438 : (Jvm.Cond.code ({ cls := "RationalOdes", name := "greatestGap", desc := "()I" } : Jvm.MethodName) prog_1_method_26_code (2 : Nat) (Option.some Jvm.ClassFile.FieldType.int)) ∈ kb := kb_2 (List.mem_of_getElem? (i := 198) rfl) rfl
theorem kw_439 : (Jvm.Cond.methodLink "RationalOdes" (179 : Nat) ({ cls := "RationalOdes", name := "isGap", desc := "(I)Z" } : Jvm.MethodName)) ∈ kb := kb_2 (List.mem_of_getElem? (i := 199) rfl) rfl
theorem kw_441 : (Jvm.Cond.instanceMethod ({ cls := "RationalOdes", name := "isGap", desc := "(I)Z" } : Jvm.MethodName)) ∈ kb := kb_2 (List.mem_of_getElem? (i := 201) rfl) rfl
theorem kw_442 : (Jvm.Cond.code ({ cls := "RationalOdes", name := "isGap", desc := "(I)Z" } : Jvm.MethodName) prog_1_method_27_code (3 : Nat) (Option.some Jvm.ClassFile.FieldType.boolean)) ∈ kb := kb_2 (List.mem_of_getElem? (i := 202) rfl) rfl
theorem kw_443 : (Jvm.Cond.methodLink "RationalOdes" (96 : Nat) ({ cls := "RationalOdes", name := "otherAt", desc := "(II)J" } : Jvm.MethodName)) ∈ kb := kb_2 (List.mem_of_getElem? (i := 203) rfl) rfl
theorem kw_445 : (Jvm.Cond.instanceMethod ({ cls := "RationalOdes", name := "otherAt", desc := "(II)J" } : Jvm.MethodName)) ∈ kb := kb_2 (List.mem_of_getElem? (i := 205) rfl) rfl
theorem kw_446 : (Jvm.Cond.code ({ cls := "RationalOdes", name := "otherAt", desc := "(II)J" } : Jvm.MethodName) prog_1_method_28_code (3 : Nat) (Option.some Jvm.ClassFile.FieldType.long)) ∈ kb := kb_2 (List.mem_of_getElem? (i := 206) rfl) rfl
theorem kw_447 : (Jvm.Cond.methodLink "RationalOdes" (176 : Nat) ({ cls := "RationalOdes", name := "leastGap", desc := "()I" } : Jvm.MethodName)) ∈ kb := kb_2 (List.mem_of_getElem? (i := 207) rfl) rfl
theorem kw_449 : (Jvm.Cond.instanceMethod ({ cls := "RationalOdes", name := "leastGap", desc := "()I" } : Jvm.MethodName)) ∈ kb := kb_2 (List.mem_of_getElem? (i := 209) rfl) rfl
theorem kw_450 : (Jvm.Cond.code ({ cls := "RationalOdes", name := "leastGap", desc := "()I" } : Jvm.MethodName) prog_1_method_25_code (2 : Nat) (Option.some Jvm.ClassFile.FieldType.int)) ∈ kb := kb_2 (List.mem_of_getElem? (i := 210) rfl) rfl
theorem kw_451 : (Jvm.Cond.methodLink "RationalOdesLaw" (102 : Nat) ({ cls := "RationalOdesLaw", name := "regular", desc := "(LRationalOdes;ZJ[J)I" } : Jvm.MethodName)) ∈ kb := kb_2 (List.mem_of_getElem? (i := 211) rfl) rfl
theorem kw_452 : (Jvm.Cond.static ({ cls := "RationalOdesLaw", name := "regular", desc := "(LRationalOdes;ZJ[J)I" } : Jvm.MethodName)) ∈ kb := kb_2 (List.mem_of_getElem? (i := 212) rfl) rfl
theorem kw_453 : (Jvm.Cond.codeWith ({ cls := "RationalOdesLaw", name := "regular", desc := "(LRationalOdes;ZJ[J)I" } : Jvm.MethodName) method_9_code (6 : Nat) (Option.some Jvm.ClassFile.FieldType.int) [((0 : Nat), (18 : Nat), (21 : Nat), (27 : Nat))]) ∈ kb := kb_2 (List.mem_of_getElem? (i := 213) rfl) rfl
theorem kw_454 : (Jvm.Cond.methodLink "RationalOdesLaw" (37 : Nat) ({ cls := "RationalOdes", name := "regular", desc := "(ZJ)Z" } : Jvm.MethodName)) ∈ kb := kb_2 (List.mem_of_getElem? (i := 214) rfl) rfl
theorem kw_455 : (Jvm.Cond.instanceMethod ({ cls := "RationalOdes", name := "regular", desc := "(ZJ)Z" } : Jvm.MethodName)) ∈ kb := kb_2 (List.mem_of_getElem? (i := 215) rfl) rfl
theorem kw_456 : (Jvm.Cond.selects "RationalOdes" ({ cls := "RationalOdes", name := "regular", desc := "(ZJ)Z" } : Jvm.MethodName) ({ cls := "RationalOdes", name := "regular", desc := "(ZJ)Z" } : Jvm.MethodName)) ∈ kb := kb_2 (List.mem_of_getElem? (i := 216) rfl) rfl
theorem kw_457 : (Jvm.Cond.code ({ cls := "RationalOdes", name := "regular", desc := "(ZJ)Z" } : Jvm.MethodName) prog_1_method_9_code (5 : Nat) (Option.some Jvm.ClassFile.FieldType.boolean)) ∈ kb := kb_2 (List.mem_of_getElem? (i := 217) rfl) rfl
theorem kw_458 : (Jvm.Cond.methodLink "RationalOdesLaw" (105 : Nat) ({ cls := "RationalOdesLaw", name := "exponent", desc := "(LRationalOdes;ZJI[J)I" } : Jvm.MethodName)) ∈ kb := kb_2 (List.mem_of_getElem? (i := 218) rfl) rfl
theorem kw_459 : (Jvm.Cond.static ({ cls := "RationalOdesLaw", name := "exponent", desc := "(LRationalOdes;ZJI[J)I" } : Jvm.MethodName)) ∈ kb := kb_2 (List.mem_of_getElem? (i := 219) rfl) rfl
theorem kw_460 : (Jvm.Cond.codeWith ({ cls := "RationalOdesLaw", name := "exponent", desc := "(LRationalOdes;ZJI[J)I" } : Jvm.MethodName) method_10_code (7 : Nat) (Option.some Jvm.ClassFile.FieldType.int) [((0 : Nat), (13 : Nat), (16 : Nat), (27 : Nat))]) ∈ kb := kb_2 (List.mem_of_getElem? (i := 220) rfl) rfl
theorem kw_461 : (Jvm.Cond.methodLink "RationalOdesLaw" (41 : Nat) ({ cls := "RationalOdes", name := "exponent", desc := "(ZJI)I" } : Jvm.MethodName)) ∈ kb := kb_2 (List.mem_of_getElem? (i := 221) rfl) rfl
theorem kw_462 : (Jvm.Cond.instanceMethod ({ cls := "RationalOdes", name := "exponent", desc := "(ZJI)I" } : Jvm.MethodName)) ∈ kb := kb_2 (List.mem_of_getElem? (i := 222) rfl) rfl
theorem kw_463 : (Jvm.Cond.selects "RationalOdes" ({ cls := "RationalOdes", name := "exponent", desc := "(ZJI)I" } : Jvm.MethodName) ({ cls := "RationalOdes", name := "exponent", desc := "(ZJI)I" } : Jvm.MethodName)) ∈ kb := kb_2 (List.mem_of_getElem? (i := 223) rfl) rfl
theorem kw_464 : (Jvm.Cond.code ({ cls := "RationalOdes", name := "exponent", desc := "(ZJI)I" } : Jvm.MethodName) prog_1_method_10_code (5 : Nat) (Option.some Jvm.ClassFile.FieldType.int)) ∈ kb := kb_2 (List.mem_of_getElem? (i := 224) rfl) rfl
theorem kw_465 : (Jvm.Cond.methodLink "RationalOdes" (100 : Nat) ({ cls := "RationalOdes", name := "fillIndicial", desc := "(I)V" } : Jvm.MethodName)) ∈ kb := kb_2 (List.mem_of_getElem? (i := 225) rfl) rfl
theorem kw_467 : (Jvm.Cond.instanceMethod ({ cls := "RationalOdes", name := "fillIndicial", desc := "(I)V" } : Jvm.MethodName)) ∈ kb := kb_2 (List.mem_of_getElem? (i := 227) rfl) rfl
theorem kw_468 : (Jvm.Cond.code ({ cls := "RationalOdes", name := "fillIndicial", desc := "(I)V" } : Jvm.MethodName) prog_1_method_29_code (8 : Nat) (Option.none : Option Jvm.ClassFile.FieldType)) ∈ kb := kb_2 (List.mem_of_getElem? (i := 228) rfl) rfl
theorem kw_469 : (Jvm.Cond.constantLong "RationalOdes" (183 : Nat) (2 : Int64)) ∈ kb := kb_2 (List.mem_of_getElem? (i := 229) rfl) rfl
theorem kw_470 : (Jvm.Cond.constantLong "RationalOdes" (185 : Nat) (3 : Int64)) ∈ kb := kb_2 (List.mem_of_getElem? (i := 230) rfl) rfl
theorem kw_471 : (Jvm.Cond.methodLink "RationalOdesLaw" (113 : Nat) ({ cls := "RationalOdesLaw", name := "answer", desc := "(LRationalOdes;II[J)I" } : Jvm.MethodName)) ∈ kb := kb_2 (List.mem_of_getElem? (i := 231) rfl) rfl
theorem kw_472 : (Jvm.Cond.static ({ cls := "RationalOdesLaw", name := "answer", desc := "(LRationalOdes;II[J)I" } : Jvm.MethodName)) ∈ kb := kb_2 (List.mem_of_getElem? (i := 232) rfl) rfl
theorem kw_473 : (Jvm.Cond.codeWith ({ cls := "RationalOdesLaw", name := "answer", desc := "(LRationalOdes;II[J)I" } : Jvm.MethodName) method_11_code (5 : Nat) (Option.some Jvm.ClassFile.FieldType.int) [((0 : Nat), (10 : Nat), (13 : Nat), (13 : Nat))]) ∈ kb := kb_2 (List.mem_of_getElem? (i := 233) rfl) rfl
theorem kw_474 : (Jvm.Cond.methodLink "RationalOdesLaw" (45 : Nat) ({ cls := "RationalOdes", name := "answer", desc := "(II)I" } : Jvm.MethodName)) ∈ kb := kb_2 (List.mem_of_getElem? (i := 234) rfl) rfl
theorem kw_475 : (Jvm.Cond.instanceMethod ({ cls := "RationalOdes", name := "answer", desc := "(II)I" } : Jvm.MethodName)) ∈ kb := kb_2 (List.mem_of_getElem? (i := 235) rfl) rfl
theorem kw_476 : (Jvm.Cond.selects "RationalOdes" ({ cls := "RationalOdes", name := "answer", desc := "(II)I" } : Jvm.MethodName) ({ cls := "RationalOdes", name := "answer", desc := "(II)I" } : Jvm.MethodName)) ∈ kb := kb_2 (List.mem_of_getElem? (i := 236) rfl) rfl
theorem kw_477 : (Jvm.Cond.code ({ cls := "RationalOdes", name := "answer", desc := "(II)I" } : Jvm.MethodName) prog_1_method_12_code (3 : Nat) (Option.some Jvm.ClassFile.FieldType.int)) ∈ kb := kb_2 (List.mem_of_getElem? (i := 237) rfl) rfl
theorem kw_478 : (Jvm.Cond.methodLink "RationalOdes" (113 : Nat) ({ cls := "RationalOdes", name := "needMember", desc := "(I)V" } : Jvm.MethodName)) ∈ kb := kb_2 (List.mem_of_getElem? (i := 238) rfl) rfl
theorem kw_480 : (Jvm.Cond.instanceMethod ({ cls := "RationalOdes", name := "needMember", desc := "(I)V" } : Jvm.MethodName)) ∈ kb := kb_3 (List.mem_of_getElem? (i := 0) rfl) rfl
theorem kw_481 : (Jvm.Cond.code ({ cls := "RationalOdes", name := "needMember", desc := "(I)V" } : Jvm.MethodName) prog_1_method_21_code (2 : Nat) (Option.none : Option Jvm.ClassFile.FieldType)) ∈ kb := kb_3 (List.mem_of_getElem? (i := 1) rfl) rfl
theorem kw_483 : (Jvm.Cond.methodLink "RationalOdes" (116 : Nat) ({ cls := "RationalOdes$Base", name := "member", desc := "(I)[J" } : Jvm.MethodName)) ∈ kb := kb_3 (List.mem_of_getElem? (i := 3) rfl) rfl
theorem kw_484 : (Jvm.Cond.instanceMethod ({ cls := "RationalOdes$Base", name := "member", desc := "(I)[J" } : Jvm.MethodName)) ∈ kb := kb_3 (List.mem_of_getElem? (i := 4) rfl) rfl
theorem kw_485 : (Jvm.Cond.selects "RationalOdes$Base" ({ cls := "RationalOdes$Base", name := "member", desc := "(I)[J" } : Jvm.MethodName) ({ cls := "RationalOdes$Base", name := "member", desc := "(I)[J" } : Jvm.MethodName)) ∈ kb := kb_3 (List.mem_of_getElem? (i := 5) rfl) rfl
theorem kw_486 : (Jvm.Cond.code ({ cls := "RationalOdes$Base", name := "member", desc := "(I)[J" } : Jvm.MethodName) prog_2_method_3_code (2 : Nat) (Option.some (Jvm.ClassFile.FieldType.array Jvm.ClassFile.FieldType.long))) ∈ kb := kb_3 (List.mem_of_getElem? (i := 6) rfl) rfl
theorem kw_487 : (Jvm.Cond.methodLink "RationalOdesLaw" (121 : Nat) ({ cls := "RationalOdesLaw", name := "take", desc := "(LRationalOdes;I)I" } : Jvm.MethodName)) ∈ kb := kb_3 (List.mem_of_getElem? (i := 7) rfl) rfl
theorem kw_488 : (Jvm.Cond.static ({ cls := "RationalOdesLaw", name := "take", desc := "(LRationalOdes;I)I" } : Jvm.MethodName)) ∈ kb := kb_3 (List.mem_of_getElem? (i := 8) rfl) rfl
theorem kw_489 : (Jvm.Cond.codeWith ({ cls := "RationalOdesLaw", name := "take", desc := "(LRationalOdes;I)I" } : Jvm.MethodName) method_12_code (3 : Nat) (Option.some Jvm.ClassFile.FieldType.int) [((0 : Nat), (5 : Nat), (8 : Nat), (13 : Nat))]) ∈ kb := kb_3 (List.mem_of_getElem? (i := 9) rfl) rfl
theorem kw_490 : (Jvm.Cond.methodLink "RationalOdesLaw" (48 : Nat) ({ cls := "RationalOdes", name := "take", desc := "(I)V" } : Jvm.MethodName)) ∈ kb := kb_3 (List.mem_of_getElem? (i := 10) rfl) rfl
theorem kw_491 : (Jvm.Cond.instanceMethod ({ cls := "RationalOdes", name := "take", desc := "(I)V" } : Jvm.MethodName)) ∈ kb := kb_3 (List.mem_of_getElem? (i := 11) rfl) rfl
theorem kw_492 : (Jvm.Cond.selects "RationalOdes" ({ cls := "RationalOdes", name := "take", desc := "(I)V" } : Jvm.MethodName) ({ cls := "RationalOdes", name := "take", desc := "(I)V" } : Jvm.MethodName)) ∈ kb := kb_3 (List.mem_of_getElem? (i := 12) rfl) rfl
theorem kw_493 : (Jvm.Cond.code ({ cls := "RationalOdes", name := "take", desc := "(I)V" } : Jvm.MethodName) prog_1_method_14_code (2 : Nat) (Option.none : Option Jvm.ClassFile.FieldType)) ∈ kb := kb_3 (List.mem_of_getElem? (i := 13) rfl) rfl
theorem kw_494 : (Jvm.Cond.methodLink "RationalOdesLaw" (125 : Nat) ({ cls := "RationalOdesLaw", name := "series", desc := "(LRationalOdes;JJJJI[J)I" } : Jvm.MethodName)) ∈ kb := kb_3 (List.mem_of_getElem? (i := 14) rfl) rfl
theorem kw_495 : (Jvm.Cond.static ({ cls := "RationalOdesLaw", name := "series", desc := "(LRationalOdes;JJJJI[J)I" } : Jvm.MethodName)) ∈ kb := kb_3 (List.mem_of_getElem? (i := 15) rfl) rfl
theorem kw_496 : (Jvm.Cond.codeWith ({ cls := "RationalOdesLaw", name := "series", desc := "(LRationalOdes;JJJJI[J)I" } : Jvm.MethodName) method_13_code (12 : Nat) (Option.some Jvm.ClassFile.FieldType.int) [((0 : Nat), (17 : Nat), (20 : Nat), (13 : Nat)), ((0 : Nat), (17 : Nat), (24 : Nat), (56 : Nat))]) ∈ kb := kb_3 (List.mem_of_getElem? (i := 16) rfl) rfl
theorem kw_498 : (Jvm.Cond.methodLink "RationalOdesLaw" (52 : Nat) ({ cls := "RationalOdes", name := "series", desc := "(JJJJI)I" } : Jvm.MethodName)) ∈ kb := kb_3 (List.mem_of_getElem? (i := 18) rfl) rfl
theorem kw_499 : (Jvm.Cond.instanceMethod ({ cls := "RationalOdes", name := "series", desc := "(JJJJI)I" } : Jvm.MethodName)) ∈ kb := kb_3 (List.mem_of_getElem? (i := 19) rfl) rfl
theorem kw_500 : (Jvm.Cond.selects "RationalOdes" ({ cls := "RationalOdes", name := "series", desc := "(JJJJI)I" } : Jvm.MethodName) ({ cls := "RationalOdes", name := "series", desc := "(JJJJI)I" } : Jvm.MethodName)) ∈ kb := kb_3 (List.mem_of_getElem? (i := 20) rfl) rfl
theorem kw_501 : (Jvm.Cond.code ({ cls := "RationalOdes", name := "series", desc := "(JJJJI)I" } : Jvm.MethodName) prog_1_method_15_code (11 : Nat) (Option.some Jvm.ClassFile.FieldType.int)) ∈ kb := kb_3 (List.mem_of_getElem? (i := 21) rfl) rfl
theorem kw_519 : (Jvm.Cond.methodLink "RationalOdes" (137 : Nat) ({ cls := "RationalOdes", name := "nextTerm", desc := "(I)J" } : Jvm.MethodName)) ∈ kb := kb_3 (List.mem_of_getElem? (i := 39) rfl) rfl
theorem kw_521 : (Jvm.Cond.instanceMethod ({ cls := "RationalOdes", name := "nextTerm", desc := "(I)J" } : Jvm.MethodName)) ∈ kb := kb_3 (List.mem_of_getElem? (i := 41) rfl) rfl
theorem kw_522 : (Jvm.Cond.code ({ cls := "RationalOdes", name := "nextTerm", desc := "(I)J" } : Jvm.MethodName) prog_1_method_33_code (6 : Nat) (Option.some Jvm.ClassFile.FieldType.long)) ∈ kb := kb_3 (List.mem_of_getElem? (i := 42) rfl) rfl
theorem kw_523 : (Jvm.Cond.methodLink "RationalOdes" (191 : Nat) ({ cls := "RationalOdes", name := "inverse", desc := "(J)J" } : Jvm.MethodName)) ∈ kb := kb_3 (List.mem_of_getElem? (i := 43) rfl) rfl
theorem kw_524 : (Jvm.Cond.classLink "RationalOdesLaw" (66 : Nat) "RationalOdesModel") ∈ kb := kb_3 (List.mem_of_getElem? (i := 44) rfl) rfl
theorem kw_525 : (Jvm.Cond.instantiable "RationalOdesModel" (13 : Nat)) ∈ kb := kb_3 (List.mem_of_getElem? (i := 45) rfl) rfl
theorem kw_526 : (Jvm.Cond.methodLink "RationalOdesLaw" (68 : Nat) ({ cls := "RationalOdesModel", name := "<init>", desc := "(I)V" } : Jvm.MethodName)) ∈ kb := kb_3 (List.mem_of_getElem? (i := 46) rfl) rfl
theorem kw_527 : (Jvm.Cond.instanceMethod ({ cls := "RationalOdesModel", name := "<init>", desc := "(I)V" } : Jvm.MethodName)) ∈ kb := kb_3 (List.mem_of_getElem? (i := 47) rfl) rfl
theorem kw_528 : (Jvm.Cond.code ({ cls := "RationalOdesModel", name := "<init>", desc := "(I)V" } : Jvm.MethodName) prog_5_method_1_code (2 : Nat) (Option.none : Option Jvm.ClassFile.FieldType)) ∈ kb := kb_3 (List.mem_of_getElem? (i := 48) rfl) rfl
theorem kw_529 : (Jvm.Cond.methodLink "RationalOdesModel" (1 : Nat) ({ cls := "java/lang/Object", name := "<init>", desc := "()V" } : Jvm.MethodName)) ∈ kb := kb_3 (List.mem_of_getElem? (i := 49) rfl) rfl
theorem kw_530 : (Jvm.Cond.fieldLink "RationalOdesModel" (42 : Nat) "RationalOdesModel" "code" "I") ∈ kb := kb_3 (List.mem_of_getElem? (i := 50) rfl) rfl
theorem kw_531 : (Jvm.Cond.fieldLink "RationalOdesModel" (38 : Nat) "RationalOdesModel" "order" "I") ∈ kb := kb_3 (List.mem_of_getElem? (i := 51) rfl) rfl
theorem kw_532 : (Jvm.Cond.fieldLink "RationalOdesModel" (7 : Nat) "RationalOdesModel" "factors" "[J") ∈ kb := kb_3 (List.mem_of_getElem? (i := 52) rfl) rfl
theorem kw_533 : (Jvm.Cond.fieldLink "RationalOdesModel" (13 : Nat) "RationalOdesModel" "hand" "[J") ∈ kb := kb_3 (List.mem_of_getElem? (i := 53) rfl) rfl
theorem kw_534 : (Jvm.Cond.fieldLink "RationalOdesModel" (16 : Nat) "RationalOdesModel" "made" "[J") ∈ kb := kb_3 (List.mem_of_getElem? (i := 54) rfl) rfl
theorem kw_535 : (Jvm.Cond.fieldLink "RationalOdesModel" (19 : Nat) "RationalOdesModel" "local" "[J") ∈ kb := kb_3 (List.mem_of_getElem? (i := 55) rfl) rfl
theorem kw_536 : (Jvm.Cond.fieldLink "RationalOdesModel" (96 : Nat) "RationalOdesModel" "level" "I") ∈ kb := kb_3 (List.mem_of_getElem? (i := 56) rfl) rfl
theorem kw_537 : (Jvm.Cond.fieldLink "RationalOdesModel" (22 : Nat) "RationalOdesModel" "table" "[J") ∈ kb := kb_3 (List.mem_of_getElem? (i := 57) rfl) rfl
theorem kw_538 : (Jvm.Cond.fieldLink "RationalOdesModel" (25 : Nat) "RationalOdesModel" "row" "[I") ∈ kb := kb_3 (List.mem_of_getElem? (i := 58) rfl) rfl
theorem kw_539 : (Jvm.Cond.fieldLink "RationalOdesModel" (29 : Nat) "RationalOdesModel" "base" "[J") ∈ kb := kb_3 (List.mem_of_getElem? (i := 59) rfl) rfl
theorem kw_540 : (Jvm.Cond.fieldLink "RationalOdesModel" (111 : Nat) "RationalOdesModel" "many" "I") ∈ kb := kb_3 (List.mem_of_getElem? (i := 60) rfl) rfl
theorem kw_541 : (Jvm.Cond.fieldLink "RationalOdesModel" (32 : Nat) "RationalOdesModel" "numbers" "[J") ∈ kb := kb_3 (List.mem_of_getElem? (i := 61) rfl) rfl
theorem kw_542 : (Jvm.Cond.fieldLink "RationalOdesModel" (35 : Nat) "RationalOdesModel" "turned" "[J") ∈ kb := kb_3 (List.mem_of_getElem? (i := 62) rfl) rfl
theorem kw_543 : (Jvm.Cond.lays "RationalOdesModel" "RationalOdesModel" "code" "I") ∈ kb := kb_3 (List.mem_of_getElem? (i := 63) rfl) rfl
theorem kw_544 : (Jvm.Cond.soleField "RationalOdesModel" "code") ∈ kb := kb_3 (List.mem_of_getElem? (i := 64) rfl) rfl
theorem kw_545 : (Jvm.Cond.laysFinal "RationalOdesModel" "RationalOdesModel" "order" "I") ∈ kb := kb_3 (List.mem_of_getElem? (i := 65) rfl) rfl
theorem kw_546 : (Jvm.Cond.soleField "RationalOdesModel" "order") ∈ kb := kb_3 (List.mem_of_getElem? (i := 66) rfl) rfl
theorem kw_547 : (Jvm.Cond.laysFinal "RationalOdesModel" "RationalOdesModel" "factors" "[J") ∈ kb := kb_3 (List.mem_of_getElem? (i := 67) rfl) rfl
theorem kw_548 : (Jvm.Cond.soleField "RationalOdesModel" "factors") ∈ kb := kb_3 (List.mem_of_getElem? (i := 68) rfl) rfl
theorem kw_549 : (Jvm.Cond.laysFinal "RationalOdesModel" "RationalOdesModel" "hand" "[J") ∈ kb := kb_3 (List.mem_of_getElem? (i := 69) rfl) rfl
theorem kw_550 : (Jvm.Cond.soleField "RationalOdesModel" "hand") ∈ kb := kb_3 (List.mem_of_getElem? (i := 70) rfl) rfl
theorem kw_551 : (Jvm.Cond.laysFinal "RationalOdesModel" "RationalOdesModel" "made" "[J") ∈ kb := kb_3 (List.mem_of_getElem? (i := 71) rfl) rfl
theorem kw_552 : (Jvm.Cond.soleField "RationalOdesModel" "made") ∈ kb := kb_3 (List.mem_of_getElem? (i := 72) rfl) rfl
theorem kw_553 : (Jvm.Cond.laysFinal "RationalOdesModel" "RationalOdesModel" "local" "[J") ∈ kb := kb_3 (List.mem_of_getElem? (i := 73) rfl) rfl
theorem kw_554 : (Jvm.Cond.soleField "RationalOdesModel" "local") ∈ kb := kb_3 (List.mem_of_getElem? (i := 74) rfl) rfl
theorem kw_555 : (Jvm.Cond.lays "RationalOdesModel" "RationalOdesModel" "level" "I") ∈ kb := kb_3 (List.mem_of_getElem? (i := 75) rfl) rfl
theorem kw_556 : (Jvm.Cond.soleField "RationalOdesModel" "level") ∈ kb := kb_3 (List.mem_of_getElem? (i := 76) rfl) rfl
theorem kw_557 : (Jvm.Cond.laysFinal "RationalOdesModel" "RationalOdesModel" "table" "[J") ∈ kb := kb_3 (List.mem_of_getElem? (i := 77) rfl) rfl
theorem kw_558 : (Jvm.Cond.soleField "RationalOdesModel" "table") ∈ kb := kb_3 (List.mem_of_getElem? (i := 78) rfl) rfl
theorem kw_559 : (Jvm.Cond.laysFinal "RationalOdesModel" "RationalOdesModel" "row" "[I") ∈ kb := kb_3 (List.mem_of_getElem? (i := 79) rfl) rfl
theorem kw_560 : (Jvm.Cond.soleField "RationalOdesModel" "row") ∈ kb := kb_3 (List.mem_of_getElem? (i := 80) rfl) rfl
theorem kw_561 : (Jvm.Cond.laysFinal "RationalOdesModel" "RationalOdesModel" "base" "[J") ∈ kb := kb_3 (List.mem_of_getElem? (i := 81) rfl) rfl
theorem kw_562 : (Jvm.Cond.soleField "RationalOdesModel" "base") ∈ kb := kb_3 (List.mem_of_getElem? (i := 82) rfl) rfl
theorem kw_563 : (Jvm.Cond.lays "RationalOdesModel" "RationalOdesModel" "many" "I") ∈ kb := kb_3 (List.mem_of_getElem? (i := 83) rfl) rfl
theorem kw_564 : (Jvm.Cond.soleField "RationalOdesModel" "many") ∈ kb := kb_3 (List.mem_of_getElem? (i := 84) rfl) rfl
theorem kw_565 : (Jvm.Cond.laysFinal "RationalOdesModel" "RationalOdesModel" "numbers" "[J") ∈ kb := kb_3 (List.mem_of_getElem? (i := 85) rfl) rfl
theorem kw_566 : (Jvm.Cond.soleField "RationalOdesModel" "numbers") ∈ kb := kb_3 (List.mem_of_getElem? (i := 86) rfl) rfl
theorem kw_567 : (Jvm.Cond.laysFinal "RationalOdesModel" "RationalOdesModel" "turned" "[J") ∈ kb := kb_3 (List.mem_of_getElem? (i := 87) rfl) rfl
theorem kw_568 : (Jvm.Cond.soleField "RationalOdesModel" "turned") ∈ kb := kb_3 (List.mem_of_getElem? (i := 88) rfl) rfl
theorem kw_569 : (Jvm.Cond.superclass "RationalOdesModel" "java/lang/Object") ∈ kb := kb_3 (List.mem_of_getElem? (i := 89) rfl) rfl
theorem kw_570 : (Jvm.Cond.methodLink "RationalOdesLaw" (75 : Nat) ({ cls := "RationalOdesModel", name := "thrown", desc := "()I" } : Jvm.MethodName)) ∈ kb := kb_3 (List.mem_of_getElem? (i := 90) rfl) rfl
theorem kw_571 : (Jvm.Cond.instanceMethod ({ cls := "RationalOdesModel", name := "thrown", desc := "()I" } : Jvm.MethodName)) ∈ kb := kb_3 (List.mem_of_getElem? (i := 91) rfl) rfl
theorem kw_572 : (Jvm.Cond.selects "RationalOdesModel" ({ cls := "RationalOdesModel", name := "thrown", desc := "()I" } : Jvm.MethodName) ({ cls := "RationalOdesModel", name := "thrown", desc := "()I" } : Jvm.MethodName)) ∈ kb := kb_3 (List.mem_of_getElem? (i := 92) rfl) rfl
theorem kw_573 : (Jvm.Cond.code ({ cls := "RationalOdesModel", name := "thrown", desc := "()I" } : Jvm.MethodName) prog_5_method_2_code (1 : Nat) (Option.some Jvm.ClassFile.FieldType.int)) ∈ kb := kb_3 (List.mem_of_getElem? (i := 93) rfl) rfl
theorem kw_574 : (Jvm.Cond.methodLink "RationalOdesLaw" (74 : Nat) ({ cls := "RationalOdesModel", name := "put", desc := "(IIJ)Z" } : Jvm.MethodName)) ∈ kb := kb_3 (List.mem_of_getElem? (i := 94) rfl) rfl
theorem kw_575 : (Jvm.Cond.instanceMethod ({ cls := "RationalOdesModel", name := "put", desc := "(IIJ)Z" } : Jvm.MethodName)) ∈ kb := kb_3 (List.mem_of_getElem? (i := 95) rfl) rfl
theorem kw_576 : (Jvm.Cond.selects "RationalOdesModel" ({ cls := "RationalOdesModel", name := "put", desc := "(IIJ)Z" } : Jvm.MethodName) ({ cls := "RationalOdesModel", name := "put", desc := "(IIJ)Z" } : Jvm.MethodName)) ∈ kb := kb_3 (List.mem_of_getElem? (i := 96) rfl) rfl
theorem kw_577 : (Jvm.Cond.code ({ cls := "RationalOdesModel", name := "put", desc := "(IIJ)Z" } : Jvm.MethodName) prog_5_method_9_code (6 : Nat) (Option.some Jvm.ClassFile.FieldType.boolean)) ∈ kb := kb_3 (List.mem_of_getElem? (i := 97) rfl) rfl
theorem kw_578 : (Jvm.Cond.methodLink "RationalOdesModel" (57 : Nat) ({ cls := "RationalOdesModel", name := "isThere", desc := "(II)Z" } : Jvm.MethodName)) ∈ kb := kb_3 (List.mem_of_getElem? (i := 98) rfl) rfl
theorem kw_580 : (Jvm.Cond.instanceMethod ({ cls := "RationalOdesModel", name := "isThere", desc := "(II)Z" } : Jvm.MethodName)) ∈ kb := kb_3 (List.mem_of_getElem? (i := 100) rfl) rfl
theorem kw_581 : (Jvm.Cond.code ({ cls := "RationalOdesModel", name := "isThere", desc := "(II)Z" } : Jvm.MethodName) prog_5_method_8_code (3 : Nat) (Option.some Jvm.ClassFile.FieldType.boolean)) ∈ kb := kb_3 (List.mem_of_getElem? (i := 101) rfl) rfl
theorem kw_582 : (Jvm.Cond.methodLink "RationalOdesModel" (51 : Nat) ({ cls := "RationalOdesModel", name := "in", desc := "(JJJ)Z" } : Jvm.MethodName)) ∈ kb := kb_3 (List.mem_of_getElem? (i := 102) rfl) rfl
theorem kw_583 : (Jvm.Cond.static ({ cls := "RationalOdesModel", name := "in", desc := "(JJJ)Z" } : Jvm.MethodName)) ∈ kb := kb_3 (List.mem_of_getElem? (i := 103) rfl) rfl
theorem kw_584 : (Jvm.Cond.code ({ cls := "RationalOdesModel", name := "in", desc := "(JJJ)Z" } : Jvm.MethodName) prog_5_method_4_code (6 : Nat) (Option.some Jvm.ClassFile.FieldType.boolean)) ∈ kb := kb_3 (List.mem_of_getElem? (i := 104) rfl) rfl
theorem kw_585 : (Jvm.Cond.constantLong "RationalOdesModel" (55 : Nat) (4 : Int64)) ∈ kb := kb_3 (List.mem_of_getElem? (i := 105) rfl) rfl
theorem kw_586 : (Jvm.Cond.methodLink "RationalOdesModel" (47 : Nat) ({ cls := "RationalOdesModel", name := "modulo", desc := "(J)J" } : Jvm.MethodName)) ∈ kb := kb_3 (List.mem_of_getElem? (i := 106) rfl) rfl
theorem kw_587 : (Jvm.Cond.static ({ cls := "RationalOdesModel", name := "modulo", desc := "(J)J" } : Jvm.MethodName)) ∈ kb := kb_3 (List.mem_of_getElem? (i := 107) rfl) rfl
theorem kw_588 : (Jvm.Cond.code ({ cls := "RationalOdesModel", name := "modulo", desc := "(J)J" } : Jvm.MethodName) prog_5_method_5_code (4 : Nat) (Option.some Jvm.ClassFile.FieldType.long)) ∈ kb := kb_3 (List.mem_of_getElem? (i := 108) rfl) rfl
theorem kw_589 : (Jvm.Cond.constantLong "RationalOdesModel" (45 : Nat) (32003 : Int64)) ∈ kb := kb_3 (List.mem_of_getElem? (i := 109) rfl) rfl
theorem kw_590 : (Jvm.Cond.methodLink "RationalOdesLaw" (81 : Nat) ({ cls := "RationalOdesModel", name := "at", desc := "(II)I" } : Jvm.MethodName)) ∈ kb := kb_3 (List.mem_of_getElem? (i := 110) rfl) rfl
theorem kw_591 : (Jvm.Cond.instanceMethod ({ cls := "RationalOdesModel", name := "at", desc := "(II)I" } : Jvm.MethodName)) ∈ kb := kb_3 (List.mem_of_getElem? (i := 111) rfl) rfl
theorem kw_592 : (Jvm.Cond.selects "RationalOdesModel" ({ cls := "RationalOdesModel", name := "at", desc := "(II)I" } : Jvm.MethodName) ({ cls := "RationalOdesModel", name := "at", desc := "(II)I" } : Jvm.MethodName)) ∈ kb := kb_3 (List.mem_of_getElem? (i := 112) rfl) rfl
theorem kw_593 : (Jvm.Cond.code ({ cls := "RationalOdesModel", name := "at", desc := "(II)I" } : Jvm.MethodName) prog_5_method_10_code (3 : Nat) (Option.some Jvm.ClassFile.FieldType.int)) ∈ kb := kb_3 (List.mem_of_getElem? (i := 113) rfl) rfl
theorem kw_594 : (Jvm.Cond.methodLink "RationalOdesLaw" (141 : Nat) ({ cls := "RationalOdesModel", name := "clear", desc := "()V" } : Jvm.MethodName)) ∈ kb := kb_3 (List.mem_of_getElem? (i := 114) rfl) rfl
theorem kw_595 : (Jvm.Cond.instanceMethod ({ cls := "RationalOdesModel", name := "clear", desc := "()V" } : Jvm.MethodName)) ∈ kb := kb_3 (List.mem_of_getElem? (i := 115) rfl) rfl
theorem kw_596 : (Jvm.Cond.selects "RationalOdesModel" ({ cls := "RationalOdesModel", name := "clear", desc := "()V" } : Jvm.MethodName) ({ cls := "RationalOdesModel", name := "clear", desc := "()V" } : Jvm.MethodName)) ∈ kb := kb_3 (List.mem_of_getElem? (i := 116) rfl) rfl
theorem kw_597 : (Jvm.Cond.code ({ cls := "RationalOdesModel", name := "clear", desc := "()V" } : Jvm.MethodName) prog_5_method_11_code (2 : Nat) (Option.none : Option Jvm.ClassFile.FieldType)) ∈ kb := kb_3 (List.mem_of_getElem? (i := 117) rfl) rfl
theorem kw_598 : (Jvm.Cond.methodLink "RationalOdesLaw" (137 : Nat) ({ cls := "RationalOdesModel", name := "move", desc := "(J)V" } : Jvm.MethodName)) ∈ kb := kb_3 (List.mem_of_getElem? (i := 118) rfl) rfl
theorem kw_599 : (Jvm.Cond.instanceMethod ({ cls := "RationalOdesModel", name := "move", desc := "(J)V" } : Jvm.MethodName)) ∈ kb := kb_3 (List.mem_of_getElem? (i := 119) rfl) rfl
theorem kw_600 : (Jvm.Cond.selects "RationalOdesModel" ({ cls := "RationalOdesModel", name := "move", desc := "(J)V" } : Jvm.MethodName) ({ cls := "RationalOdesModel", name := "move", desc := "(J)V" } : Jvm.MethodName)) ∈ kb := kb_3 (List.mem_of_getElem? (i := 120) rfl) rfl
theorem kw_601 : (Jvm.Cond.code ({ cls := "RationalOdesModel", name := "move", desc := "(J)V" } : Jvm.MethodName) prog_5_method_13_code (4 : Nat) (Option.none : Option Jvm.ClassFile.FieldType)) ∈ kb := kb_3 (List.mem_of_getElem? (i := 121) rfl) rfl
theorem kw_602 : (Jvm.Cond.methodLink "RationalOdesModel" (61 : Nat) ({ cls := "RationalOdesModel", name := "moveTo", desc := "(J)V" } : Jvm.MethodName)) ∈ kb := kb_3 (List.mem_of_getElem? (i := 122) rfl) rfl
theorem kw_604 : (Jvm.Cond.instanceMethod ({ cls := "RationalOdesModel", name := "moveTo", desc := "(J)V" } : Jvm.MethodName)) ∈ kb := kb_3 (List.mem_of_getElem? (i := 124) rfl) rfl
theorem kw_605 : (Jvm.Cond.code ({ cls := "RationalOdesModel", name := "moveTo", desc := "(J)V" } : Jvm.MethodName) prog_5_method_12_code (6 : Nat) (Option.none : Option Jvm.ClassFile.FieldType)) ∈ kb := kb_3 (List.mem_of_getElem? (i := 125) rfl) rfl
theorem kw_606 : (Jvm.Cond.methodLink "RationalOdesLaw" (132 : Nat) ({ cls := "RationalOdesModel", name := "turn", desc := "()V" } : Jvm.MethodName)) ∈ kb := kb_3 (List.mem_of_getElem? (i := 126) rfl) rfl
theorem kw_607 : (Jvm.Cond.instanceMethod ({ cls := "RationalOdesModel", name := "turn", desc := "()V" } : Jvm.MethodName)) ∈ kb := kb_3 (List.mem_of_getElem? (i := 127) rfl) rfl
theorem kw_608 : (Jvm.Cond.selects "RationalOdesModel" ({ cls := "RationalOdesModel", name := "turn", desc := "()V" } : Jvm.MethodName) ({ cls := "RationalOdesModel", name := "turn", desc := "()V" } : Jvm.MethodName)) ∈ kb := kb_3 (List.mem_of_getElem? (i := 128) rfl) rfl
theorem kw_609 : (Jvm.Cond.code ({ cls := "RationalOdesModel", name := "turn", desc := "()V" } : Jvm.MethodName) prog_5_method_14_code (6 : Nat) (Option.none : Option Jvm.ClassFile.FieldType)) ∈ kb := kb_3 (List.mem_of_getElem? (i := 129) rfl) rfl
theorem kw_610 : (Jvm.Cond.constantLong "RationalOdesModel" (65 : Nat) (-1 : Int64)) ∈ kb := kb_3 (List.mem_of_getElem? (i := 130) rfl) rfl
theorem kw_611 : (Jvm.Cond.methodLink "RationalOdesModel" (67 : Nat) ({ cls := "RationalOdesModel", name := "falling", desc := "(JI)J" } : Jvm.MethodName)) ∈ kb := kb_3 (List.mem_of_getElem? (i := 131) rfl) rfl
theorem kw_612 : (Jvm.Cond.static ({ cls := "RationalOdesModel", name := "falling", desc := "(JI)J" } : Jvm.MethodName)) ∈ kb := kb_3 (List.mem_of_getElem? (i := 132) rfl) rfl
theorem kw_613 : (Jvm.Cond.code ({ cls := "RationalOdesModel", name := "falling", desc := "(JI)J" } : Jvm.MethodName) prog_5_method_7_code (6 : Nat) (Option.some Jvm.ClassFile.FieldType.long)) ∈ kb := kb_3 (List.mem_of_getElem? (i := 133) rfl) rfl
theorem kw_614 : (Jvm.Cond.methodLink "RationalOdesLaw" (85 : Nat) ({ cls := "RationalOdesModel", name := "hand", desc := "(IJ)V" } : Jvm.MethodName)) ∈ kb := kb_3 (List.mem_of_getElem? (i := 134) rfl) rfl
theorem kw_615 : (Jvm.Cond.instanceMethod ({ cls := "RationalOdesModel", name := "hand", desc := "(IJ)V" } : Jvm.MethodName)) ∈ kb := kb_3 (List.mem_of_getElem? (i := 135) rfl) rfl
theorem kw_616 : (Jvm.Cond.selects "RationalOdesModel" ({ cls := "RationalOdesModel", name := "hand", desc := "(IJ)V" } : Jvm.MethodName) ({ cls := "RationalOdesModel", name := "hand", desc := "(IJ)V" } : Jvm.MethodName)) ∈ kb := kb_3 (List.mem_of_getElem? (i := 136) rfl) rfl
theorem kw_617 : (Jvm.Cond.code ({ cls := "RationalOdesModel", name := "hand", desc := "(IJ)V" } : Jvm.MethodName) prog_5_method_15_code (4 : Nat) (Option.none : Option Jvm.ClassFile.FieldType)) ∈ kb := kb_3 (List.mem_of_getElem? (i := 137) rfl) rfl
theorem kw_618 : (Jvm.Cond.constantLong "RationalOdesModel" (71 : Nat) (12 : Int64)) ∈ kb := kb_3 (List.mem_of_getElem? (i := 138) rfl) rfl
theorem kw_619 : (Jvm.Cond.methodLink "RationalOdesLaw" (89 : Nat) ({ cls := "RationalOdesModel", name := "made", desc := "(I)I" } : Jvm.MethodName)) ∈ kb := kb_3 (List.mem_of_getElem? (i := 139) rfl) rfl
theorem kw_620 : (Jvm.Cond.instanceMethod ({ cls := "RationalOdesModel", name := "made", desc := "(I)I" } : Jvm.MethodName)) ∈ kb := kb_3 (List.mem_of_getElem? (i := 140) rfl) rfl
theorem kw_621 : (Jvm.Cond.selects "RationalOdesModel" ({ cls := "RationalOdesModel", name := "made", desc := "(I)I" } : Jvm.MethodName) ({ cls := "RationalOdesModel", name := "made", desc := "(I)I" } : Jvm.MethodName)) ∈ kb := kb_3 (List.mem_of_getElem? (i := 141) rfl) rfl
theorem kw_622 : (Jvm.Cond.code ({ cls := "RationalOdesModel", name := "made", desc := "(I)I" } : Jvm.MethodName) prog_5_method_18_code (2 : Nat) (Option.some Jvm.ClassFile.FieldType.int)) ∈ kb := kb_3 (List.mem_of_getElem? (i := 142) rfl) rfl
theorem kw_623 : (Jvm.Cond.methodLink "RationalOdesModel" (77 : Nat) ({ cls := "RationalOdesModel", name := "makeAll", desc := "()V" } : Jvm.MethodName)) ∈ kb := kb_3 (List.mem_of_getElem? (i := 143) rfl) rfl
theorem kw_625 : (Jvm.Cond.instanceMethod ({ cls := "RationalOdesModel", name := "makeAll", desc := "()V" } : Jvm.MethodName)) ∈ kb := kb_3 (List.mem_of_getElem? (i := 145) rfl) rfl
theorem kw_626 : (Jvm.Cond.code ({ cls := "RationalOdesModel", name := "makeAll", desc := "()V" } : Jvm.MethodName) prog_5_method_17_code (2 : Nat) (Option.none : Option Jvm.ClassFile.FieldType)) ∈ kb := kb_3 (List.mem_of_getElem? (i := 146) rfl) rfl
theorem kw_627 : (Jvm.Cond.methodLink "RationalOdesModel" (73 : Nat) ({ cls := "RationalOdesModel", name := "make", desc := "(IJ)V" } : Jvm.MethodName)) ∈ kb := kb_3 (List.mem_of_getElem? (i := 147) rfl) rfl
theorem kw_629 : (Jvm.Cond.instanceMethod ({ cls := "RationalOdesModel", name := "make", desc := "(IJ)V" } : Jvm.MethodName)) ∈ kb := kb_3 (List.mem_of_getElem? (i := 149) rfl) rfl
theorem kw_630 : (Jvm.Cond.code ({ cls := "RationalOdesModel", name := "make", desc := "(IJ)V" } : Jvm.MethodName) prog_5_method_16_code (8 : Nat) (Option.none : Option Jvm.ClassFile.FieldType)) ∈ kb := kb_3 (List.mem_of_getElem? (i := 150) rfl) rfl
theorem kw_631 : (Jvm.Cond.constantLong "RationalOdesModel" (80 : Nat) (16 : Int64)) ∈ kb := kb_3 (List.mem_of_getElem? (i := 151) rfl) rfl
theorem kw_632 : (Jvm.Cond.methodLink "RationalOdesLaw" (120 : Nat) ({ cls := "RationalOdesModel", name := "solves", desc := "()Z" } : Jvm.MethodName)) ∈ kb := kb_3 (List.mem_of_getElem? (i := 152) rfl) rfl
theorem kw_633 : (Jvm.Cond.instanceMethod ({ cls := "RationalOdesModel", name := "solves", desc := "()Z" } : Jvm.MethodName)) ∈ kb := kb_3 (List.mem_of_getElem? (i := 153) rfl) rfl
theorem kw_634 : (Jvm.Cond.selects "RationalOdesModel" ({ cls := "RationalOdesModel", name := "solves", desc := "()Z" } : Jvm.MethodName) ({ cls := "RationalOdesModel", name := "solves", desc := "()Z" } : Jvm.MethodName)) ∈ kb := kb_3 (List.mem_of_getElem? (i := 154) rfl) rfl
theorem kw_635 : (Jvm.Cond.code ({ cls := "RationalOdesModel", name := "solves", desc := "()Z" } : Jvm.MethodName) prog_5_method_19_code (3 : Nat) (Option.some Jvm.ClassFile.FieldType.boolean)) ∈ kb := kb_3 (List.mem_of_getElem? (i := 155) rfl) rfl
theorem kw_636 : (Jvm.Cond.methodLink "RationalOdesLaw" (93 : Nat) ({ cls := "RationalOdesModel", name := "places", desc := "()I" } : Jvm.MethodName)) ∈ kb := kb_3 (List.mem_of_getElem? (i := 156) rfl) rfl
theorem kw_637 : (Jvm.Cond.instanceMethod ({ cls := "RationalOdesModel", name := "places", desc := "()I" } : Jvm.MethodName)) ∈ kb := kb_3 (List.mem_of_getElem? (i := 157) rfl) rfl
theorem kw_638 : (Jvm.Cond.selects "RationalOdesModel" ({ cls := "RationalOdesModel", name := "places", desc := "()I" } : Jvm.MethodName) ({ cls := "RationalOdesModel", name := "places", desc := "()I" } : Jvm.MethodName)) ∈ kb := kb_3 (List.mem_of_getElem? (i := 158) rfl) rfl
theorem kw_639 : (Jvm.Cond.code ({ cls := "RationalOdesModel", name := "places", desc := "()I" } : Jvm.MethodName) prog_5_method_23_code (1 : Nat) (Option.some Jvm.ClassFile.FieldType.int)) ∈ kb := kb_3 (List.mem_of_getElem? (i := 159) rfl) rfl
theorem kw_640 : (Jvm.Cond.methodLink "RationalOdesModel" (85 : Nat) ({ cls := "RationalOdesModel", name := "hasHead", desc := "()Z" } : Jvm.MethodName)) ∈ kb := kb_3 (List.mem_of_getElem? (i := 160) rfl) rfl
theorem kw_642 : (Jvm.Cond.instanceMethod ({ cls := "RationalOdesModel", name := "hasHead", desc := "()Z" } : Jvm.MethodName)) ∈ kb := kb_3 (List.mem_of_getElem? (i := 162) rfl) rfl
theorem kw_643 : (Jvm.Cond.code ({ cls := "RationalOdesModel", name := "hasHead", desc := "()Z" } : Jvm.MethodName) prog_5_method_20_code (3 : Nat) (Option.some Jvm.ClassFile.FieldType.boolean)) ∈ kb := kb_3 (List.mem_of_getElem? (i := 163) rfl) rfl
theorem kw_644 : (Jvm.Cond.methodLink "RationalOdesModel" (89 : Nat) ({ cls := "RationalOdesModel", name := "find", desc := "(I)I" } : Jvm.MethodName)) ∈ kb := kb_3 (List.mem_of_getElem? (i := 164) rfl) rfl
theorem kw_646 : (Jvm.Cond.instanceMethod ({ cls := "RationalOdesModel", name := "find", desc := "(I)I" } : Jvm.MethodName)) ∈ kb := kb_3 (List.mem_of_getElem? (i := 166) rfl) rfl
theorem kw_647 : (Jvm.Cond.code ({ cls := "RationalOdesModel", name := "find", desc := "(I)I" } : Jvm.MethodName) prog_5_method_22_code (4 : Nat) (Option.some Jvm.ClassFile.FieldType.int)) ∈ kb := kb_3 (List.mem_of_getElem? (i := 167) rfl) rfl
theorem kw_648 : (Jvm.Cond.methodLink "RationalOdesModel" (82 : Nat) ({ cls := "RationalOdesModel", name := "headAt", desc := "(J)J" } : Jvm.MethodName)) ∈ kb := kb_3 (List.mem_of_getElem? (i := 168) rfl) rfl
theorem kw_650 : (Jvm.Cond.instanceMethod ({ cls := "RationalOdesModel", name := "headAt", desc := "(J)J" } : Jvm.MethodName)) ∈ kb := kb_3 (List.mem_of_getElem? (i := 170) rfl) rfl
theorem kw_651 : (Jvm.Cond.code ({ cls := "RationalOdesModel", name := "headAt", desc := "(J)J" } : Jvm.MethodName) prog_5_method_21_code (6 : Nat) (Option.some Jvm.ClassFile.FieldType.long)) ∈ kb := kb_3 (List.mem_of_getElem? (i := 171) rfl) rfl
theorem kw_652 : (Jvm.Cond.methodLink "RationalOdesLaw" (97 : Nat) ({ cls := "RationalOdesModel", name := "place", desc := "(I)I" } : Jvm.MethodName)) ∈ kb := kb_3 (List.mem_of_getElem? (i := 172) rfl) rfl
theorem kw_653 : (Jvm.Cond.instanceMethod ({ cls := "RationalOdesModel", name := "place", desc := "(I)I" } : Jvm.MethodName)) ∈ kb := kb_3 (List.mem_of_getElem? (i := 173) rfl) rfl
theorem kw_654 : (Jvm.Cond.selects "RationalOdesModel" ({ cls := "RationalOdesModel", name := "place", desc := "(I)I" } : Jvm.MethodName) ({ cls := "RationalOdesModel", name := "place", desc := "(I)I" } : Jvm.MethodName)) ∈ kb := kb_3 (List.mem_of_getElem? (i := 174) rfl) rfl
theorem kw_655 : (Jvm.Cond.code ({ cls := "RationalOdesModel", name := "place", desc := "(I)I" } : Jvm.MethodName) prog_5_method_24_code (3 : Nat) (Option.some Jvm.ClassFile.FieldType.int)) ∈ kb := kb_3 (List.mem_of_getElem? (i := 175) rfl) rfl
theorem kw_656 : (Jvm.Cond.methodLink "RationalOdesModel" (93 : Nat) ({ cls := "RationalOdesModel", name := "raise", desc := "(I)I" } : Jvm.MethodName)) ∈ kb := kb_3 (List.mem_of_getElem? (i := 176) rfl) rfl
theorem kw_658 : (Jvm.Cond.instanceMethod ({ cls := "RationalOdesModel", name := "raise", desc := "(I)I" } : Jvm.MethodName)) ∈ kb := kb_3 (List.mem_of_getElem? (i := 178) rfl) rfl
theorem kw_659 : (Jvm.Cond.code ({ cls := "RationalOdesModel", name := "raise", desc := "(I)I" } : Jvm.MethodName) prog_5_method_3_code (2 : Nat) (Option.some Jvm.ClassFile.FieldType.int)) ∈ kb := kb_3 (List.mem_of_getElem? (i := 179) rfl) rfl
theorem kw_660 : (Jvm.Cond.methodLink "RationalOdesLaw" (101 : Nat) ({ cls := "RationalOdesModel", name := "level", desc := "(ZJ)I" } : Jvm.MethodName)) ∈ kb := kb_3 (List.mem_of_getElem? (i := 180) rfl) rfl
theorem kw_661 : (Jvm.Cond.instanceMethod ({ cls := "RationalOdesModel", name := "level", desc := "(ZJ)I" } : Jvm.MethodName)) ∈ kb := kb_3 (List.mem_of_getElem? (i := 181) rfl) rfl
theorem kw_662 : (Jvm.Cond.selects "RationalOdesModel" ({ cls := "RationalOdesModel", name := "level", desc := "(ZJ)I" } : Jvm.MethodName) ({ cls := "RationalOdesModel", name := "level", desc := "(ZJ)I" } : Jvm.MethodName)) ∈ kb := kb_3 (List.mem_of_getElem? (i := 182) rfl) rfl
theorem kw_663 : (Jvm.Cond.code ({ cls := "RationalOdesModel", name := "level", desc := "(ZJ)I" } : Jvm.MethodName) prog_5_method_26_code (4 : Nat) (Option.some Jvm.ClassFile.FieldType.int)) ∈ kb := kb_3 (List.mem_of_getElem? (i := 183) rfl) rfl
theorem kw_664 : (Jvm.Cond.methodLink "RationalOdesModel" (99 : Nat) ({ cls := "RationalOdesModel", name := "findLevel", desc := "(ZJ)Z" } : Jvm.MethodName)) ∈ kb := kb_3 (List.mem_of_getElem? (i := 184) rfl) rfl
theorem kw_666 : (Jvm.Cond.instanceMethod ({ cls := "RationalOdesModel", name := "findLevel", desc := "(ZJ)Z" } : Jvm.MethodName)) ∈ kb := kb_3 (List.mem_of_getElem? (i := 186) rfl) rfl
theorem kw_667 : (Jvm.Cond.code ({ cls := "RationalOdesModel", name := "findLevel", desc := "(ZJ)Z" } : Jvm.MethodName) prog_5_method_25_code (7 : Nat) (Option.some Jvm.ClassFile.FieldType.boolean)) ∈ kb := kb_3 (List.mem_of_getElem? (i := 187) rfl) rfl
theorem kw_668 : (Jvm.Cond.methodLink "RationalOdesLaw" (104 : Nat) ({ cls := "RationalOdesModel", name := "regular", desc := "(ZJ)Z" } : Jvm.MethodName)) ∈ kb := kb_3 (List.mem_of_getElem? (i := 188) rfl) rfl
theorem kw_669 : (Jvm.Cond.instanceMethod ({ cls := "RationalOdesModel", name := "regular", desc := "(ZJ)Z" } : Jvm.MethodName)) ∈ kb := kb_3 (List.mem_of_getElem? (i := 189) rfl) rfl
theorem kw_670 : (Jvm.Cond.selects "RationalOdesModel" ({ cls := "RationalOdesModel", name := "regular", desc := "(ZJ)Z" } : Jvm.MethodName) ({ cls := "RationalOdesModel", name := "regular", desc := "(ZJ)Z" } : Jvm.MethodName)) ∈ kb := kb_3 (List.mem_of_getElem? (i := 190) rfl) rfl
theorem kw_671 : (Jvm.Cond.code ({ cls := "RationalOdesModel", name := "regular", desc := "(ZJ)Z" } : Jvm.MethodName) prog_5_method_28_code (4 : Nat) (Option.some Jvm.ClassFile.FieldType.boolean)) ∈ kb := kb_3 (List.mem_of_getElem? (i := 191) rfl) rfl
theorem kw_672 : (Jvm.Cond.methodLink "RationalOdesModel" (103 : Nat) ({ cls := "RationalOdesModel", name := "localAt", desc := "(I)J" } : Jvm.MethodName)) ∈ kb := kb_3 (List.mem_of_getElem? (i := 192) rfl) rfl
theorem kw_674 : (Jvm.Cond.instanceMethod ({ cls := "RationalOdesModel", name := "localAt", desc := "(I)J" } : Jvm.MethodName)) ∈ kb := kb_3 (List.mem_of_getElem? (i := 194) rfl) rfl
theorem kw_675 : (Jvm.Cond.code ({ cls := "RationalOdesModel", name := "localAt", desc := "(I)J" } : Jvm.MethodName) prog_5_method_27_code (2 : Nat) (Option.some Jvm.ClassFile.FieldType.long)) ∈ kb := kb_3 (List.mem_of_getElem? (i := 195) rfl) rfl
theorem kw_676 : (Jvm.Cond.methodLink "RationalOdesLaw" (108 : Nat) ({ cls := "RationalOdesModel", name := "exponent", desc := "(ZJI)I" } : Jvm.MethodName)) ∈ kb := kb_3 (List.mem_of_getElem? (i := 196) rfl) rfl
theorem kw_677 : (Jvm.Cond.instanceMethod ({ cls := "RationalOdesModel", name := "exponent", desc := "(ZJI)I" } : Jvm.MethodName)) ∈ kb := kb_3 (List.mem_of_getElem? (i := 197) rfl) rfl
theorem kw_678 : (Jvm.Cond.selects "RationalOdesModel" ({ cls := "RationalOdesModel", name := "exponent", desc := "(ZJI)I" } : Jvm.MethodName) ({ cls := "RationalOdesModel", name := "exponent", desc := "(ZJI)I" } : Jvm.MethodName)) ∈ kb := kb_3 (List.mem_of_getElem? (i := 198) rfl) rfl
theorem kw_679 : (Jvm.Cond.code ({ cls := "RationalOdesModel", name := "exponent", desc := "(ZJI)I" } : Jvm.MethodName) prog_5_method_29_code (10 : Nat) (Option.some Jvm.ClassFile.FieldType.int)) ∈ kb := kb_3 (List.mem_of_getElem? (i := 199) rfl) rfl
theorem kw_680 : (Jvm.Cond.methodLink "RationalOdesLaw" (112 : Nat) ({ cls := "RationalOdesModel", name := "answers", desc := "()I" } : Jvm.MethodName)) ∈ kb := kb_3 (List.mem_of_getElem? (i := 200) rfl) rfl
theorem kw_681 : (Jvm.Cond.instanceMethod ({ cls := "RationalOdesModel", name := "answers", desc := "()I" } : Jvm.MethodName)) ∈ kb := kb_3 (List.mem_of_getElem? (i := 201) rfl) rfl
theorem kw_682 : (Jvm.Cond.selects "RationalOdesModel" ({ cls := "RationalOdesModel", name := "answers", desc := "()I" } : Jvm.MethodName) ({ cls := "RationalOdesModel", name := "answers", desc := "()I" } : Jvm.MethodName)) ∈ kb := kb_3 (List.mem_of_getElem? (i := 202) rfl) rfl
theorem kw_683 : (Jvm.Cond.code ({ cls := "RationalOdesModel", name := "answers", desc := "()I" } : Jvm.MethodName) prog_5_method_32_code (1 : Nat) (Option.some Jvm.ClassFile.FieldType.int)) ∈ kb := kb_3 (List.mem_of_getElem? (i := 203) rfl) rfl
theorem kw_684 : (Jvm.Cond.methodLink "RationalOdesModel" (117 : Nat) ({ cls := "RationalOdesModel", name := "findAnswers", desc := "()V" } : Jvm.MethodName)) ∈ kb := kb_3 (List.mem_of_getElem? (i := 204) rfl) rfl
theorem kw_686 : (Jvm.Cond.instanceMethod ({ cls := "RationalOdesModel", name := "findAnswers", desc := "()V" } : Jvm.MethodName)) ∈ kb := kb_3 (List.mem_of_getElem? (i := 206) rfl) rfl
theorem kw_687 : (Jvm.Cond.code ({ cls := "RationalOdesModel", name := "findAnswers", desc := "()V" } : Jvm.MethodName) prog_5_method_30_code (4 : Nat) (Option.none : Option Jvm.ClassFile.FieldType)) ∈ kb := kb_3 (List.mem_of_getElem? (i := 207) rfl) rfl
theorem kw_688 : (Jvm.Cond.methodLink "RationalOdesModel" (107 : Nat) ({ cls := "RationalOdesModel", name := "bringOut", desc := "(III)V" } : Jvm.MethodName)) ∈ kb := kb_3 (List.mem_of_getElem? (i := 208) rfl) rfl
theorem kw_690 : (Jvm.Cond.instanceMethod ({ cls := "RationalOdesModel", name := "bringOut", desc := "(III)V" } : Jvm.MethodName)) ∈ kb := kb_3 (List.mem_of_getElem? (i := 210) rfl) rfl
theorem kw_691 : (Jvm.Cond.code ({ cls := "RationalOdesModel", name := "bringOut", desc := "(III)V" } : Jvm.MethodName) prog_5_method_31_code (10 : Nat) (Option.none : Option Jvm.ClassFile.FieldType)) ∈ kb := kb_3 (List.mem_of_getElem? (i := 211) rfl) rfl
theorem kw_692 : (Jvm.Cond.methodLink "RationalOdesModel" (114 : Nat) ({ cls := "RationalOdesModel", name := "inverse", desc := "(J)J" } : Jvm.MethodName)) ∈ kb := kb_3 (List.mem_of_getElem? (i := 212) rfl) rfl
theorem kw_693 : (Jvm.Cond.static ({ cls := "RationalOdesModel", name := "inverse", desc := "(J)J" } : Jvm.MethodName)) ∈ kb := kb_3 (List.mem_of_getElem? (i := 213) rfl) rfl
theorem kw_694 : (Jvm.Cond.code ({ cls := "RationalOdesModel", name := "inverse", desc := "(J)J" } : Jvm.MethodName) prog_5_method_6_code (7 : Nat) (Option.some Jvm.ClassFile.FieldType.long)) ∈ kb := kb_3 (List.mem_of_getElem? (i := 214) rfl) rfl
theorem kw_695 : (Jvm.Cond.methodLink "RationalOdesLaw" (115 : Nat) ({ cls := "RationalOdesModel", name := "answer", desc := "(II)I" } : Jvm.MethodName)) ∈ kb := kb_3 (List.mem_of_getElem? (i := 215) rfl) rfl
theorem kw_696 : (Jvm.Cond.instanceMethod ({ cls := "RationalOdesModel", name := "answer", desc := "(II)I" } : Jvm.MethodName)) ∈ kb := kb_3 (List.mem_of_getElem? (i := 216) rfl) rfl
theorem kw_697 : (Jvm.Cond.selects "RationalOdesModel" ({ cls := "RationalOdesModel", name := "answer", desc := "(II)I" } : Jvm.MethodName) ({ cls := "RationalOdesModel", name := "answer", desc := "(II)I" } : Jvm.MethodName)) ∈ kb := kb_3 (List.mem_of_getElem? (i := 217) rfl) rfl
theorem kw_698 : (Jvm.Cond.code ({ cls := "RationalOdesModel", name := "answer", desc := "(II)I" } : Jvm.MethodName) prog_5_method_34_code (3 : Nat) (Option.some Jvm.ClassFile.FieldType.int)) ∈ kb := kb_3 (List.mem_of_getElem? (i := 218) rfl) rfl
theorem kw_699 : (Jvm.Cond.methodLink "RationalOdesModel" (120 : Nat) ({ cls := "RationalOdesModel", name := "isMember", desc := "(II)Z" } : Jvm.MethodName)) ∈ kb := kb_3 (List.mem_of_getElem? (i := 219) rfl) rfl
theorem kw_701 : (Jvm.Cond.instanceMethod ({ cls := "RationalOdesModel", name := "isMember", desc := "(II)Z" } : Jvm.MethodName)) ∈ kb := kb_3 (List.mem_of_getElem? (i := 221) rfl) rfl
theorem kw_702 : (Jvm.Cond.code ({ cls := "RationalOdesModel", name := "isMember", desc := "(II)Z" } : Jvm.MethodName) prog_5_method_33_code (3 : Nat) (Option.some Jvm.ClassFile.FieldType.boolean)) ∈ kb := kb_3 (List.mem_of_getElem? (i := 222) rfl) rfl
theorem kw_703 : (Jvm.Cond.methodLink "RationalOdesLaw" (124 : Nat) ({ cls := "RationalOdesModel", name := "take", desc := "(I)V" } : Jvm.MethodName)) ∈ kb := kb_3 (List.mem_of_getElem? (i := 223) rfl) rfl
theorem kw_704 : (Jvm.Cond.instanceMethod ({ cls := "RationalOdesModel", name := "take", desc := "(I)V" } : Jvm.MethodName)) ∈ kb := kb_3 (List.mem_of_getElem? (i := 224) rfl) rfl
theorem kw_705 : (Jvm.Cond.selects "RationalOdesModel" ({ cls := "RationalOdesModel", name := "take", desc := "(I)V" } : Jvm.MethodName) ({ cls := "RationalOdesModel", name := "take", desc := "(I)V" } : Jvm.MethodName)) ∈ kb := kb_3 (List.mem_of_getElem? (i := 225) rfl) rfl
theorem kw_706 : (Jvm.Cond.code ({ cls := "RationalOdesModel", name := "take", desc := "(I)V" } : Jvm.MethodName) prog_5_method_35_code (3 : Nat) (Option.none : Option Jvm.ClassFile.FieldType)) ∈ kb := kb_3 (List.mem_of_getElem? (i := 226) rfl) rfl
theorem kw_707 : (Jvm.Cond.methodLink "RationalOdesLaw" (128 : Nat) ({ cls := "RationalOdesModel", name := "series", desc := "(JJJJI)I" } : Jvm.MethodName)) ∈ kb := kb_3 (List.mem_of_getElem? (i := 227) rfl) rfl
theorem kw_708 : (Jvm.Cond.instanceMethod ({ cls := "RationalOdesModel", name := "series", desc := "(JJJJI)I" } : Jvm.MethodName)) ∈ kb := kb_3 (List.mem_of_getElem? (i := 228) rfl) rfl
theorem kw_709 : (Jvm.Cond.selects "RationalOdesModel" ({ cls := "RationalOdesModel", name := "series", desc := "(JJJJI)I" } : Jvm.MethodName) ({ cls := "RationalOdesModel", name := "series", desc := "(JJJJI)I" } : Jvm.MethodName)) ∈ kb := kb_3 (List.mem_of_getElem? (i := 229) rfl) rfl
theorem kw_710 : (Jvm.Cond.code ({ cls := "RationalOdesModel", name := "series", desc := "(JJJJI)I" } : Jvm.MethodName) prog_5_method_36_code (16 : Nat) (Option.some Jvm.ClassFile.FieldType.int)) ∈ kb := kb_3 (List.mem_of_getElem? (i := 230) rfl) rfl
theorem kw_711 : (Jvm.Cond.constantLong "RationalOdesModel" (123 : Nat) (30 : Int64)) ∈ kb := kb_3 (List.mem_of_getElem? (i := 231) rfl) rfl
theorem kw_712 : (Jvm.Cond.constantLong "RationalOdesLaw" (69 : Nat) (4294967295 : Int64)) ∈ kb := kb_3 (List.mem_of_getElem? (i := 232) rfl) rfl
theorem ks_O_madeAt : Cond.selects R_O y_O_madeAt y_O_madeAt ∈ kb := kb_s (List.mem_of_getElem? (i := 0) rfl) rfl
theorem ks_O_share : Cond.selects R_O y_O_share y_O_share ∈ kb := kb_s (List.mem_of_getElem? (i := 1) rfl) rfl
theorem ks_O_knowBase : Cond.selects R_O y_O_knowBase y_O_knowBase ∈ kb := kb_s (List.mem_of_getElem? (i := 2) rfl) rfl
theorem ks_B_reduceRows : Cond.selects R_B y_B_reduceRows y_B_reduceRows ∈ kb := kb_s (List.mem_of_getElem? (i := 3) rfl) rfl
theorem ks_B_rowWith : Cond.selects R_B y_B_rowWith y_B_rowWith ∈ kb := kb_s (List.mem_of_getElem? (i := 4) rfl) rfl
theorem ks_B_swap : Cond.selects R_B y_B_swap y_B_swap ∈ kb := kb_s (List.mem_of_getElem? (i := 5) rfl) rfl
theorem ks_B_scaleRow : Cond.selects R_B y_B_scaleRow y_B_scaleRow ∈ kb := kb_s (List.mem_of_getElem? (i := 6) rfl) rfl
theorem ks_B_clearColumn : Cond.selects R_B y_B_clearColumn y_B_clearColumn ∈ kb := kb_s (List.mem_of_getElem? (i := 7) rfl) rfl
theorem ks_B_fillMember : Cond.selects R_B y_B_fillMember y_B_fillMember ∈ kb := kb_s (List.mem_of_getElem? (i := 8) rfl) rfl
theorem ks_O_adjointAt : Cond.selects R_O y_O_adjointAt y_O_adjointAt ∈ kb := kb_s (List.mem_of_getElem? (i := 9) rfl) rfl
theorem ks_O_needFactorPower : Cond.selects R_O y_O_needFactorPower y_O_needFactorPower ∈ kb := kb_s (List.mem_of_getElem? (i := 10) rfl) rfl
theorem ks_O_needHandPower : Cond.selects R_O y_O_needHandPower y_O_needHandPower ∈ kb := kb_s (List.mem_of_getElem? (i := 12) rfl) rfl
theorem ks_O_findPlaces : Cond.selects R_O y_O_findPlaces y_O_findPlaces ∈ kb := kb_s (List.mem_of_getElem? (i := 13) rfl) rfl
theorem ks_R_keepRootsOnce : Cond.selects R_R y_R_keepRootsOnce y_R_keepRootsOnce ∈ kb := kb_s (List.mem_of_getElem? (i := 14) rfl) rfl
theorem ks_R_raise : Cond.selects R_R y_R_raise y_R_raise ∈ kb := kb_s (List.mem_of_getElem? (i := 15) rfl) rfl
theorem ks_R_squareRaised : Cond.selects R_R y_R_squareRaised y_R_squareRaised ∈ kb := kb_s (List.mem_of_getElem? (i := 16) rfl) rfl
theorem ks_R_timesLine : Cond.selects R_R y_R_timesLine y_R_timesLine ∈ kb := kb_s (List.mem_of_getElem? (i := 17) rfl) rfl
theorem ks_R_commonWithRaised : Cond.selects R_R y_R_commonWithRaised y_R_commonWithRaised ∈ kb := kb_s (List.mem_of_getElem? (i := 18) rfl) rfl
theorem ks_R_oneRoot : Cond.selects R_R y_R_oneRoot y_R_oneRoot ∈ kb := kb_s (List.mem_of_getElem? (i := 19) rfl) rfl
theorem ks_R_insert : Cond.selects R_R y_R_insert y_R_insert ∈ kb := kb_s (List.mem_of_getElem? (i := 20) rfl) rfl
theorem ks_R_divideOut : Cond.selects R_R y_R_divideOut y_R_divideOut ∈ kb := kb_s (List.mem_of_getElem? (i := 21) rfl) rfl
theorem ks_O_goTo : Cond.selects R_O y_O_goTo y_O_goTo ∈ kb := kb_s (List.mem_of_getElem? (i := 22) rfl) rfl
theorem ks_O_allZero : Cond.selects R_O y_O_allZero y_O_allZero ∈ kb := kb_s (List.mem_of_getElem? (i := 23) rfl) rfl
theorem ks_O_shiftToOther : Cond.selects R_O y_O_shiftToOther y_O_shiftToOther ∈ kb := kb_s (List.mem_of_getElem? (i := 24) rfl) rfl
theorem ks_O_greatestGap : Cond.selects R_O y_O_greatestGap y_O_greatestGap ∈ kb := kb_s (List.mem_of_getElem? (i := 25) rfl) rfl
theorem ks_O_isGap : Cond.selects R_O y_O_isGap y_O_isGap ∈ kb := kb_s (List.mem_of_getElem? (i := 26) rfl) rfl
theorem ks_O_otherAt : Cond.selects R_O y_O_otherAt y_O_otherAt ∈ kb := kb_s (List.mem_of_getElem? (i := 27) rfl) rfl
theorem ks_O_leastGap : Cond.selects R_O y_O_leastGap y_O_leastGap ∈ kb := kb_s (List.mem_of_getElem? (i := 28) rfl) rfl
theorem ks_O_fillIndicial : Cond.selects R_O y_O_fillIndicial y_O_fillIndicial ∈ kb := kb_s (List.mem_of_getElem? (i := 29) rfl) rfl
theorem ks_O_needMember : Cond.selects R_O y_O_needMember y_O_needMember ∈ kb := kb_s (List.mem_of_getElem? (i := 30) rfl) rfl
theorem ks_O_nextTerm : Cond.selects R_O y_O_nextTerm y_O_nextTerm ∈ kb := kb_s (List.mem_of_getElem? (i := 31) rfl) rfl
theorem ks_M_isThere : Cond.selects R_M y_M_isThere y_M_isThere ∈ kb := kb_s (List.mem_of_getElem? (i := 32) rfl) rfl
theorem ks_M_moveTo : Cond.selects R_M y_M_moveTo y_M_moveTo ∈ kb := kb_s (List.mem_of_getElem? (i := 33) rfl) rfl
theorem ks_M_makeAll : Cond.selects R_M y_M_makeAll y_M_makeAll ∈ kb := kb_s (List.mem_of_getElem? (i := 34) rfl) rfl
theorem ks_M_make : Cond.selects R_M y_M_make y_M_make ∈ kb := kb_s (List.mem_of_getElem? (i := 35) rfl) rfl
theorem ks_M_hasHead : Cond.selects R_M y_M_hasHead y_M_hasHead ∈ kb := kb_s (List.mem_of_getElem? (i := 36) rfl) rfl
theorem ks_M_find : Cond.selects R_M y_M_find y_M_find ∈ kb := kb_s (List.mem_of_getElem? (i := 37) rfl) rfl
theorem ks_M_headAt : Cond.selects R_M y_M_headAt y_M_headAt ∈ kb := kb_s (List.mem_of_getElem? (i := 38) rfl) rfl
theorem ks_M_raise : Cond.selects R_M y_M_raise y_M_raise ∈ kb := kb_s (List.mem_of_getElem? (i := 39) rfl) rfl
theorem ks_M_findLevel : Cond.selects R_M y_M_findLevel y_M_findLevel ∈ kb := kb_s (List.mem_of_getElem? (i := 40) rfl) rfl
theorem ks_M_localAt : Cond.selects R_M y_M_localAt y_M_localAt ∈ kb := kb_s (List.mem_of_getElem? (i := 41) rfl) rfl
theorem ks_M_findAnswers : Cond.selects R_M y_M_findAnswers y_M_findAnswers ∈ kb := kb_s (List.mem_of_getElem? (i := 42) rfl) rfl
theorem ks_M_bringOut : Cond.selects R_M y_M_bringOut y_M_bringOut ∈ kb := kb_s (List.mem_of_getElem? (i := 43) rfl) rfl
theorem ks_M_isMember : Cond.selects R_M y_M_isMember y_M_isMember ∈ kb := kb_s (List.mem_of_getElem? (i := 44) rfl) rfl
