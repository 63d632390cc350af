/-! NAMES: written by program out of the Statement, NAMES.json and the listing -/
def R_T : String := "LinearRows$Table"
def R_S : String := "LinearRows$Shape"
def R_X : String := "LinearRows"
def R_M : String := "LinearRowsModel"
def R_L : String := "LinearRowsLaw"
def R_JM : String := "java/lang/Math"
def R_JA : String := "java/util/Arrays"
def F_T : u_T := fun k => match k with
  | 0 => ("LinearRows$Table", "size", "I", true)
  | _ => ("LinearRows$Table", "cells", "[J", true)
def tt_T : Nat → FieldType := fun k => match k with
  | 0 => .int
  | _ => .array .long
theorem n_T : ∀ a, a < 2 → ∀ b, b < 2 → a ≠ b → (F_T a).2.1 ≠ (F_T b).2.1 := by decide +kernel
theorem tt_T_ok : ∀ k, k < 2 → parseFieldDescriptor (F_T k).2.2.1 = some (tt_T k) := by decide +kernel
def F_S : u_T := fun k => match k with
  | 0 => ("LinearRows$Shape", "size", "I", true)
  | 1 => ("LinearRows$Shape", "keptRows", "LLinearRows$Table;", true)
  | 2 => ("LinearRows$Shape", "bounds", "LLinearRows$Table;", true)
  | _ => ("LinearRows$Shape", "empty", "Z", false)
def tt_S : Nat → FieldType := fun k => match k with
  | 0 => .int
  | 1 => .object "LinearRows$Table"
  | 2 => .object "LinearRows$Table"
  | _ => .boolean
theorem n_S : ∀ a, a < 4 → ∀ b, b < 4 → a ≠ b → (F_S a).2.1 ≠ (F_S b).2.1 := by decide +kernel
theorem tt_S_ok : ∀ k, k < 4 → parseFieldDescriptor (F_S k).2.2.1 = some (tt_S k) := by decide +kernel
def F_X : u_T := fun k => match k with
  | 0 => ("LinearRows", "names", "I", true)
  | 1 => ("LinearRows", "places", "I", true)
  | 2 => ("LinearRows", "shapes", "[LLinearRows$Shape;", true)
  | 3 => ("LinearRows", "made", "LLinearRows$Shape;", true)
  | 4 => ("LinearRows", "left", "LLinearRows$Table;", true)
  | 5 => ("LinearRows", "trial", "LLinearRows$Table;", true)
  | 6 => ("LinearRows", "numbers", "[J", true)
  | 7 => ("LinearRows", "neededRows", "[J", true)
  | _ => ("LinearRows", "neededCount", "I", false)
def tt_X : Nat → FieldType := fun k => match k with
  | 0 => .int
  | 1 => .int
  | 2 => .array (.object "LinearRows$Shape")
  | 3 => .object "LinearRows$Shape"
  | 4 => .object "LinearRows$Table"
  | 5 => .object "LinearRows$Table"
  | 6 => .array .long
  | 7 => .array .long
  | _ => .int
theorem n_X : ∀ a, a < 9 → ∀ b, b < 9 → a ≠ b → (F_X a).2.1 ≠ (F_X b).2.1 := by decide +kernel
theorem tt_X_ok : ∀ k, k < 9 → parseFieldDescriptor (F_X k).2.2.1 = some (tt_X k) := by decide +kernel
def F_M : u_T := fun k => match k with
  | 0 => ("LinearRowsModel", "thrown", "I", false)
  | 1 => ("LinearRowsModel", "n", "I", true)
  | 2 => ("LinearRowsModel", "rows", "[J", true)
  | 3 => ("LinearRowsModel", "isEmpty", "[Z", true)
  | 4 => ("LinearRowsModel", "d", "[J", true)
  | 5 => ("LinearRowsModel", "other", "[J", true)
  | 6 => ("LinearRowsModel", "made", "[J", true)
  | 7 => ("LinearRowsModel", "point", "[J", true)
  | 8 => ("LinearRowsModel", "needMany", "I", false)
  | 9 => ("LinearRowsModel", "needA", "[I", true)
  | 10 => ("LinearRowsModel", "needB", "[I", true)
  | 11 => ("LinearRowsModel", "needC", "[J", true)
  | _ => ("LinearRowsModel", "isLeft", "[Z", true)
def tt_M : Nat → FieldType := fun k => match k with
  | 0 => .int
  | 1 => .int
  | 2 => .array .long
  | 3 => .array .boolean
  | 4 => .array .long
  | 5 => .array .long
  | 6 => .array .long
  | 7 => .array .long
  | 8 => .int
  | 9 => .array .int
  | 10 => .array .int
  | 11 => .array .long
  | _ => .array .boolean
theorem n_M : ∀ a, a < 13 → ∀ b, b < 13 → a ≠ b → (F_M a).2.1 ≠ (F_M b).2.1 := by decide +kernel
theorem tt_M_ok : ∀ k, k < 13 → parseFieldDescriptor (F_M k).2.2.1 = some (tt_M k) := by decide +kernel
abbrev classes : List vw_C := [(R_T, F_T, 2), (R_S, F_S, 4), (R_X, F_X, 9), (R_M, F_M, 13)]
def wG : List Cond := lw_tbl.filter goodWord
abbrev b_X_init : ByteArray := prog_1_method_1_code
def y_X_init : MethodName := ⟨R_X, "<init>", "(I)V"⟩
abbrev w_X_init : List Cond := .code y_X_init b_X_init 3 none :: wG
abbrev b_X_all : ByteArray := prog_1_method_2_code
def y_X_all : MethodName := ⟨R_X, "all", "(I)V"⟩
abbrev w_X_all : List Cond := .code y_X_all b_X_all 2 none :: wG
abbrev b_X_row : ByteArray := prog_1_method_3_code
def y_X_row : MethodName := ⟨R_X, "row", "(IIIJ)I"⟩
abbrev w_X_row : List Cond := .code y_X_row b_X_row 6 (some .int) :: wG
abbrev b_X_bound : ByteArray := prog_1_method_4_code
def y_X_bound : MethodName := ⟨R_X, "bound", "(III)J"⟩
abbrev w_X_bound : List Cond := .code y_X_bound b_X_bound 4 (some .long) :: wG
abbrev b_X_kept : ByteArray := prog_1_method_5_code
def y_X_kept : MethodName := ⟨R_X, "kept", "(III)J"⟩
abbrev w_X_kept : List Cond := .code y_X_kept b_X_kept 4 (some .long) :: wG
abbrev b_X_meet : ByteArray := prog_1_method_6_code
def y_X_meet : MethodName := ⟨R_X, "meet", "(III)I"⟩
abbrev w_X_meet : List Cond := .code y_X_meet b_X_meet 4 (some .int) :: wG
abbrev b_X_join : ByteArray := prog_1_method_7_code
def y_X_join : MethodName := ⟨R_X, "join", "(III)I"⟩
abbrev w_X_join : List Cond := .code y_X_join b_X_join 4 (some .int) :: wG
abbrev b_X_widen : ByteArray := prog_1_method_8_code
def y_X_widen : MethodName := ⟨R_X, "widen", "(III)I"⟩
abbrev w_X_widen : List Cond := .code y_X_widen b_X_widen 4 (some .int) :: wG
abbrev b_X_narrow : ByteArray := prog_1_method_9_code
def y_X_narrow : MethodName := ⟨R_X, "narrow", "(III)I"⟩
abbrev w_X_narrow : List Cond := .code y_X_narrow b_X_narrow 4 (some .int) :: wG
abbrev b_X_copy : ByteArray := prog_1_method_10_code
def y_X_copy : MethodName := ⟨R_X, "copy", "(II)V"⟩
abbrev w_X_copy : List Cond := .code y_X_copy b_X_copy 3 none :: wG
abbrev b_X_set : ByteArray := prog_1_method_11_code
def y_X_set : MethodName := ⟨R_X, "set", "(IIIJ)I"⟩
abbrev w_X_set : List Cond := .code y_X_set b_X_set 6 (some .int) :: wG
abbrev b_X_forget : ByteArray := prog_1_method_12_code
def y_X_forget : MethodName := ⟨R_X, "forget", "(II)I"⟩
abbrev w_X_forget : List Cond := .code y_X_forget b_X_forget 3 (some .int) :: wG
abbrev b_X_within : ByteArray := prog_1_method_13_code
def y_X_within : MethodName := ⟨R_X, "within", "(II)Z"⟩
abbrev w_X_within : List Cond := .code y_X_within b_X_within 3 (some .boolean) :: wG
abbrev b_X_put : ByteArray := prog_1_method_14_code
def y_X_put : MethodName := ⟨R_X, "put", "(IJ)J"⟩
abbrev w_X_put : List Cond := .code y_X_put b_X_put 6 (some .long) :: wG
abbrev b_X_point : ByteArray := prog_1_method_15_code
def y_X_point : MethodName := ⟨R_X, "point", "(I)J"⟩
abbrev w_X_point : List Cond := .code y_X_point b_X_point 2 (some .long) :: wG
abbrev b_X_has : ByteArray := prog_1_method_16_code
def y_X_has : MethodName := ⟨R_X, "has", "(I)Z"⟩
abbrev w_X_has : List Cond := .code y_X_has b_X_has 4 (some .boolean) :: wG
abbrev b_X_sample : ByteArray := prog_1_method_17_code
def y_X_sample : MethodName := ⟨R_X, "sample", "(I)Z"⟩
abbrev w_X_sample : List Cond := .code y_X_sample b_X_sample 3 (some .boolean) :: wG
abbrev b_X_needed : ByteArray := prog_1_method_18_code
def y_X_needed : MethodName := ⟨R_X, "needed", "(I)I"⟩
abbrev w_X_needed : List Cond := .code y_X_needed b_X_needed 2 (some .int) :: wG
abbrev b_X_needs : ByteArray := prog_1_method_19_code
def y_X_needs : MethodName := ⟨R_X, "needs", "(II)J"⟩
abbrev w_X_needs : List Cond := .code y_X_needs b_X_needs 3 (some .long) :: wG
abbrev b_X_fits : ByteArray := prog_1_method_20_code
def y_X_fits : MethodName := ⟨R_X, "fits", "(III)Z"⟩
abbrev w_X_fits : List Cond := .code y_X_fits b_X_fits 6 (some .boolean) :: wG
abbrev b_X_array : ByteArray := prog_1_method_21_code
def y_X_array : MethodName := ⟨R_X, "array", "(III)I"⟩
abbrev w_X_array : List Cond := .code y_X_array b_X_array 5 (some .int) :: wG
abbrev b_X_told : ByteArray := prog_1_method_22_code
def y_X_told : MethodName := ⟨R_X, "told", "(I)I"⟩
abbrev w_X_told : List Cond := .code y_X_told b_X_told 2 (some .int) :: wG
abbrev b_X_checkShape : ByteArray := prog_1_method_23_code
def y_X_checkShape : MethodName := ⟨R_X, "checkShape", "(I)V"⟩
abbrev w_X_checkShape : List Cond := .code y_X_checkShape b_X_checkShape 1 none :: wG
abbrev b_X_checkShapes : ByteArray := prog_1_method_24_code
def y_X_checkShapes : MethodName := ⟨R_X, "checkShapes", "(III)V"⟩
abbrev w_X_checkShapes : List Cond := .code y_X_checkShapes b_X_checkShapes 3 none :: wG
abbrev b_X_checkName : ByteArray := prog_1_method_25_code
def y_X_checkName : MethodName := ⟨R_X, "checkName", "(I)V"⟩
abbrev w_X_checkName : List Cond := .code y_X_checkName b_X_checkName 2 none :: wG
abbrev b_X_checkTerm : ByteArray := prog_1_method_26_code
def y_X_checkTerm : MethodName := ⟨R_X, "checkTerm", "(I)V"⟩
abbrev w_X_checkTerm : List Cond := .code y_X_checkTerm b_X_checkTerm 2 none :: wG
abbrev b_X_checkGiven : ByteArray := prog_1_method_27_code
def y_X_checkGiven : MethodName := ⟨R_X, "checkGiven", "(J)V"⟩
abbrev w_X_checkGiven : List Cond := .code y_X_checkGiven b_X_checkGiven 2 none :: wG
abbrev b_X_placeOf : ByteArray := prog_1_method_28_code
def y_X_placeOf : MethodName := ⟨R_X, "placeOf", "(I)I"⟩
abbrev w_X_placeOf : List Cond := .code y_X_placeOf b_X_placeOf 1 (some .int) :: wG
abbrev b_X_termAt : ByteArray := prog_1_method_29_code
def y_X_termAt : MethodName := ⟨R_X, "termAt", "(I)I"⟩
abbrev w_X_termAt : List Cond := .code y_X_termAt b_X_termAt 2 (some .int) :: wG
abbrev b_X_placeOfNextName : ByteArray := prog_1_method_30_code
def y_X_placeOfNextName : MethodName := ⟨R_X, "placeOfNextName", "(I)I"⟩
abbrev w_X_placeOfNextName : List Cond := .code y_X_placeOfNextName b_X_placeOfNextName 1 (some .int) :: wG
abbrev b_X_plus : ByteArray := prog_1_method_31_code
def y_X_plus : MethodName := ⟨R_X, "plus", "(JJ)J"⟩
abbrev w_X_plus : List Cond := .code y_X_plus b_X_plus 4 (some .long) :: wG
abbrev b_X_takeMade : ByteArray := prog_1_method_32_code
def y_X_takeMade : MethodName := ⟨R_X, "takeMade", "(I)I"⟩
abbrev w_X_takeMade : List Cond := .code y_X_takeMade b_X_takeMade 2 (some .int) :: wG
abbrev b_X_countEmpty : ByteArray := prog_1_method_33_code
def y_X_countEmpty : MethodName := ⟨R_X, "countEmpty", "()I"⟩
abbrev w_X_countEmpty : List Cond := .code y_X_countEmpty b_X_countEmpty 3 (some .int) :: wG
abbrev b_X_numberAt : ByteArray := prog_1_method_34_code
def y_X_numberAt : MethodName := ⟨R_X, "numberAt", "(I)J"⟩
abbrev w_X_numberAt : List Cond := .code y_X_numberAt b_X_numberAt 4 (some .long) :: wG
abbrev b_X_sampleNumber : ByteArray := prog_1_method_35_code
def y_X_sampleNumber : MethodName := ⟨R_X, "sampleNumber", "(LLinearRows$Table;I)J"⟩
abbrev w_X_sampleNumber : List Cond := .code y_X_sampleNumber b_X_sampleNumber 7 (some .long) :: wG
abbrev b_X_greatestBeside : ByteArray := prog_1_method_36_code
def y_X_greatestBeside : MethodName := ⟨R_X, "greatestBeside", "(LLinearRows$Table;I)J"⟩
abbrev w_X_greatestBeside : List Cond := .code y_X_greatestBeside b_X_greatestBeside 7 (some .long) :: wG
abbrev b_X_leaveOutPairs : ByteArray := prog_1_method_37_code
def y_X_leaveOutPairs : MethodName := ⟨R_X, "leaveOutPairs", "()V"⟩
abbrev w_X_leaveOutPairs : List Cond := .code y_X_leaveOutPairs b_X_leaveOutPairs 3 none :: wG
abbrev b_X_leaveOutSingles : ByteArray := prog_1_method_38_code
def y_X_leaveOutSingles : MethodName := ⟨R_X, "leaveOutSingles", "()V"⟩
abbrev w_X_leaveOutSingles : List Cond := .code y_X_leaveOutSingles b_X_leaveOutSingles 2 none :: wG
abbrev b_X_leaveOutUnlessNeeded : ByteArray := prog_1_method_39_code
def y_X_leaveOutUnlessNeeded : MethodName := ⟨R_X, "leaveOutUnlessNeeded", "(II)V"⟩
abbrev w_X_leaveOutUnlessNeeded : List Cond := .code y_X_leaveOutUnlessNeeded b_X_leaveOutUnlessNeeded 5 none :: wG
abbrev b_X_tellLeftRows : ByteArray := prog_1_method_40_code
def y_X_tellLeftRows : MethodName := ⟨R_X, "tellLeftRows", "()V"⟩
abbrev w_X_tellLeftRows : List Cond := .code y_X_tellLeftRows b_X_tellLeftRows 3 none :: wG
abbrev b_X_tellRow : ByteArray := prog_1_method_41_code
def y_X_tellRow : MethodName := ⟨R_X, "tellRow", "(IIJ)V"⟩
abbrev w_X_tellRow : List Cond := .code y_X_tellRow b_X_tellRow 6 none :: wG
abbrev b_M_init : ByteArray := prog_5_method_1_code
def y_M_init : MethodName := ⟨R_M, "<init>", "(I)V"⟩
abbrev w_M_init : List Cond := .code y_M_init b_M_init 3 none :: wG
abbrev b_M_thrown : ByteArray := prog_5_method_2_code
def y_M_thrown : MethodName := ⟨R_M, "thrown", "()I"⟩
abbrev w_M_thrown : List Cond := .code y_M_thrown b_M_thrown 1 (some .int) :: wG
abbrev b_M_isShape : ByteArray := prog_5_method_3_code
def y_M_isShape : MethodName := ⟨R_M, "isShape", "(I)Z"⟩
abbrev w_M_isShape : List Cond := .code y_M_isShape b_M_isShape 2 (some .boolean) :: wG
abbrev b_M_isName : ByteArray := prog_5_method_4_code
def y_M_isName : MethodName := ⟨R_M, "isName", "(I)Z"⟩
abbrev w_M_isName : List Cond := .code y_M_isName b_M_isName 2 (some .boolean) :: wG
abbrev b_M_isTerm : ByteArray := prog_5_method_5_code
def y_M_isTerm : MethodName := ⟨R_M, "isTerm", "(I)Z"⟩
abbrev w_M_isTerm : List Cond := .code y_M_isTerm b_M_isTerm 2 (some .boolean) :: wG
abbrev b_M_at : ByteArray := prog_5_method_6_code
def y_M_at : MethodName := ⟨R_M, "at", "(I)I"⟩
abbrev w_M_at : List Cond := .code y_M_at b_M_at 1 (some .int) :: wG
abbrev b_M_opposite : ByteArray := prog_5_method_7_code
def y_M_opposite : MethodName := ⟨R_M, "opposite", "(I)I"⟩
abbrev w_M_opposite : List Cond := .code y_M_opposite b_M_opposite 1 (some .int) :: wG
abbrev b_M_half : ByteArray := prog_5_method_8_code
def y_M_half : MethodName := ⟨R_M, "half", "(J)J"⟩
abbrev w_M_half : List Cond := .code y_M_half b_M_half 2 (some .long) :: wG
abbrev b_M_sum : ByteArray := prog_5_method_9_code
def y_M_sum : MethodName := ⟨R_M, "sum", "(JJ)J"⟩
abbrev w_M_sum : List Cond := .code y_M_sum b_M_sum 4 (some .long) :: wG
abbrev b_M_loadRows : ByteArray := prog_5_method_10_code
def y_M_loadRows : MethodName := ⟨R_M, "loadRows", "(I)V"⟩
abbrev w_M_loadRows : List Cond := .code y_M_loadRows b_M_loadRows 3 none :: wG
abbrev b_M_close : ByteArray := prog_5_method_11_code
def y_M_close : MethodName := ⟨R_M, "close", "()Z"⟩
abbrev w_M_close : List Cond := .code y_M_close b_M_close 8 (some .boolean) :: wG
abbrev b_M_isFar : ByteArray := prog_5_method_12_code
def y_M_isFar : MethodName := ⟨R_M, "isFar", "()Z"⟩
abbrev w_M_isFar : List Cond := .code y_M_isFar b_M_isFar 7 (some .boolean) :: wG
abbrev b_M_closeMade : ByteArray := prog_5_method_13_code
def y_M_closeMade : MethodName := ⟨R_M, "closeMade", "()Z"⟩
abbrev w_M_closeMade : List Cond := .code y_M_closeMade b_M_closeMade 5 (some .boolean) :: wG
abbrev b_M_keepMade : ByteArray := prog_5_method_14_code
def y_M_keepMade : MethodName := ⟨R_M, "keepMade", "(I)V"⟩
abbrev w_M_keepMade : List Cond := .code y_M_keepMade b_M_keepMade 4 none :: wG
abbrev b_M_closeShape : ByteArray := prog_5_method_15_code
def y_M_closeShape : MethodName := ⟨R_M, "closeShape", "(I)Z"⟩
abbrev w_M_closeShape : List Cond := .code y_M_closeShape b_M_closeShape 2 (some .boolean) :: wG
abbrev b_M_copyTable : ByteArray := prog_5_method_16_code
def y_M_copyTable : MethodName := ⟨R_M, "copyTable", "(Z)V"⟩
abbrev w_M_copyTable : List Cond := .code y_M_copyTable b_M_copyTable 3 none :: wG
abbrev b_M_none : ByteArray := prog_5_method_17_code
def y_M_none : MethodName := ⟨R_M, "none", "(I)V"⟩
abbrev w_M_none : List Cond := .code y_M_none b_M_none 3 none :: wG
abbrev b_M_keepClosed : ByteArray := prog_5_method_18_code
def y_M_keepClosed : MethodName := ⟨R_M, "keepClosed", "(IZ)I"⟩
abbrev w_M_keepClosed : List Cond := .code y_M_keepClosed b_M_keepClosed 7 (some .int) :: wG
abbrev b_M_addRow : ByteArray := prog_5_method_19_code
def y_M_addRow : MethodName := ⟨R_M, "addRow", "(IIJ)V"⟩
abbrev w_M_addRow : List Cond := .code y_M_addRow b_M_addRow 9 none :: wG
abbrev b_M_boundOf : ByteArray := prog_5_method_20_code
def y_M_boundOf : MethodName := ⟨R_M, "boundOf", "(II)J"⟩
abbrev w_M_boundOf : List Cond := .code y_M_boundOf b_M_boundOf 5 (some .long) :: wG
abbrev b_M_all : ByteArray := prog_5_method_21_code
def y_M_all : MethodName := ⟨R_M, "all", "(I)V"⟩
abbrev w_M_all : List Cond := .code y_M_all b_M_all 2 none :: wG
abbrev b_M_isSmall : ByteArray := prog_5_method_22_code
def y_M_isSmall : MethodName := ⟨R_M, "isSmall", "(J)Z"⟩
abbrev w_M_isSmall : List Cond := .code y_M_isSmall b_M_isSmall 2 (some .boolean) :: wG
abbrev b_M_row : ByteArray := prog_5_method_23_code
def y_M_row : MethodName := ⟨R_M, "row", "(IIIJ)I"⟩
abbrev w_M_row : List Cond := .code y_M_row b_M_row 12 (some .int) :: wG
abbrev b_M_bound : ByteArray := prog_5_method_24_code
def y_M_bound : MethodName := ⟨R_M, "bound", "(III)J"⟩
abbrev w_M_bound : List Cond := .code y_M_bound b_M_bound 4 (some .long) :: wG
abbrev b_M_kept : ByteArray := prog_5_method_25_code
def y_M_kept : MethodName := ⟨R_M, "kept", "(III)J"⟩
abbrev w_M_kept : List Cond := .code y_M_kept b_M_kept 4 (some .long) :: wG
abbrev b_M_areShapes : ByteArray := prog_5_method_26_code
def y_M_areShapes : MethodName := ⟨R_M, "areShapes", "(III)Z"⟩
abbrev w_M_areShapes : List Cond := .code y_M_areShapes b_M_areShapes 4 (some .boolean) :: wG
abbrev b_M_meet : ByteArray := prog_5_method_27_code
def y_M_meet : MethodName := ⟨R_M, "meet", "(III)I"⟩
abbrev w_M_meet : List Cond := .code y_M_meet b_M_meet 5 (some .int) :: wG
abbrev b_M_join : ByteArray := prog_5_method_28_code
def y_M_join : MethodName := ⟨R_M, "join", "(III)I"⟩
abbrev w_M_join : List Cond := .code y_M_join b_M_join 7 (some .int) :: wG
abbrev b_M_widen : ByteArray := prog_5_method_29_code
def y_M_widen : MethodName := ⟨R_M, "widen", "(III)I"⟩
abbrev w_M_widen : List Cond := .code y_M_widen b_M_widen 11 (some .int) :: wG
abbrev b_M_narrow : ByteArray := prog_5_method_30_code
def y_M_narrow : MethodName := ⟨R_M, "narrow", "(III)I"⟩
abbrev w_M_narrow : List Cond := .code y_M_narrow b_M_narrow 12 (some .int) :: wG
abbrev b_M_copyRows : ByteArray := prog_5_method_31_code
def y_M_copyRows : MethodName := ⟨R_M, "copyRows", "(II)V"⟩
abbrev w_M_copyRows : List Cond := .code y_M_copyRows b_M_copyRows 4 none :: wG
abbrev b_M_copy : ByteArray := prog_5_method_32_code
def y_M_copy : MethodName := ⟨R_M, "copy", "(II)V"⟩
abbrev w_M_copy : List Cond := .code y_M_copy b_M_copy 3 none :: wG
abbrev b_M_drop : ByteArray := prog_5_method_33_code
def y_M_drop : MethodName := ⟨R_M, "drop", "(I)V"⟩
abbrev w_M_drop : List Cond := .code y_M_drop b_M_drop 4 none :: wG
abbrev b_M_set : ByteArray := prog_5_method_34_code
def y_M_set : MethodName := ⟨R_M, "set", "(IIIJ)I"⟩
abbrev w_M_set : List Cond := .code y_M_set b_M_set 7 (some .int) :: wG
abbrev b_M_turn : ByteArray := prog_5_method_35_code
def y_M_turn : MethodName := ⟨R_M, "turn", "(IZJ)V"⟩
abbrev w_M_turn : List Cond := .code y_M_turn b_M_turn 12 none :: wG
abbrev b_M_forget : ByteArray := prog_5_method_36_code
def y_M_forget : MethodName := ⟨R_M, "forget", "(II)I"⟩
abbrev w_M_forget : List Cond := .code y_M_forget b_M_forget 3 (some .int) :: wG
abbrev b_M_within : ByteArray := prog_5_method_37_code
def y_M_within : MethodName := ⟨R_M, "within", "(II)Z"⟩
abbrev w_M_within : List Cond := .code y_M_within b_M_within 10 (some .boolean) :: wG
abbrev b_M_put : ByteArray := prog_5_method_38_code
def y_M_put : MethodName := ⟨R_M, "put", "(IJ)J"⟩
abbrev w_M_put : List Cond := .code y_M_put b_M_put 6 (some .long) :: wG
abbrev b_M_point : ByteArray := prog_5_method_39_code
def y_M_point : MethodName := ⟨R_M, "point", "(I)J"⟩
abbrev w_M_point : List Cond := .code y_M_point b_M_point 2 (some .long) :: wG
abbrev b_M_valueAt : ByteArray := prog_5_method_40_code
def y_M_valueAt : MethodName := ⟨R_M, "valueAt", "(I)J"⟩
abbrev w_M_valueAt : List Cond := .code y_M_valueAt b_M_valueAt 2 (some .long) :: wG
abbrev b_M_has : ByteArray := prog_5_method_41_code
def y_M_has : MethodName := ⟨R_M, "has", "(I)Z"⟩
abbrev w_M_has : List Cond := .code y_M_has b_M_has 7 (some .boolean) :: wG
abbrev b_M_sample : ByteArray := prog_5_method_42_code
def y_M_sample : MethodName := ⟨R_M, "sample", "(I)Z"⟩
abbrev w_M_sample : List Cond := .code y_M_sample b_M_sample 8 (some .boolean) :: wG
abbrev b_M_termOf : ByteArray := prog_5_method_43_code
def y_M_termOf : MethodName := ⟨R_M, "termOf", "(I)I"⟩
abbrev w_M_termOf : List Cond := .code y_M_termOf b_M_termOf 1 (some .int) :: wG
abbrev b_M_listRow : ByteArray := prog_5_method_44_code
def y_M_listRow : MethodName := ⟨R_M, "listRow", "(II)V"⟩
abbrev w_M_listRow : List Cond := .code y_M_listRow b_M_listRow 5 none :: wG
abbrev b_M_needed : ByteArray := prog_5_method_45_code
def y_M_needed : MethodName := ⟨R_M, "needed", "(I)I"⟩
abbrev w_M_needed : List Cond := .code y_M_needed b_M_needed 4 (some .int) :: wG
abbrev b_M_needs : ByteArray := prog_5_method_46_code
def y_M_needs : MethodName := ⟨R_M, "needs", "(II)J"⟩
abbrev w_M_needs : List Cond := .code y_M_needs b_M_needs 3 (some .long) :: wG
abbrev b_M_fits : ByteArray := prog_5_method_47_code
def y_M_fits : MethodName := ⟨R_M, "fits", "(III)Z"⟩
abbrev w_M_fits : List Cond := .code y_M_fits b_M_fits 6 (some .boolean) :: wG
abbrev b_M_array : ByteArray := prog_5_method_48_code
def y_M_array : MethodName := ⟨R_M, "array", "(III)I"⟩
abbrev w_M_array : List Cond := .code y_M_array b_M_array 4 (some .int) :: wG
abbrev b_M_told : ByteArray := prog_5_method_49_code
def y_M_told : MethodName := ⟨R_M, "told", "(I)I"⟩
abbrev w_M_told : List Cond := .code y_M_told b_M_told 5 (some .int) :: wG
abbrev b_S_init : ByteArray := prog_2_method_1_code
def y_S_init : MethodName := ⟨R_S, "<init>", "(I)V"⟩
abbrev w_S_init : List Cond := .code y_S_init b_S_init 2 none :: wG
abbrev b_S_becomeAll : ByteArray := prog_2_method_2_code
def y_S_becomeAll : MethodName := ⟨R_S, "becomeAll", "()V"⟩
abbrev w_S_becomeAll : List Cond := .code y_S_becomeAll b_S_becomeAll 1 none :: wG
abbrev b_S_becomeEmpty : ByteArray := prog_2_method_3_code
def y_S_becomeEmpty : MethodName := ⟨R_S, "becomeEmpty", "()V"⟩
abbrev w_S_becomeEmpty : List Cond := .code y_S_becomeEmpty b_S_becomeEmpty 1 none :: wG
abbrev b_S_becomeLike : ByteArray := prog_2_method_4_code
def y_S_becomeLike : MethodName := ⟨R_S, "becomeLike", "(LLinearRows$Shape;)V"⟩
abbrev w_S_becomeLike : List Cond := .code y_S_becomeLike b_S_becomeLike 2 none :: wG
abbrev b_S_greatest : ByteArray := prog_2_method_5_code
def y_S_greatest : MethodName := ⟨R_S, "greatest", "(II)J"⟩
abbrev w_S_greatest : List Cond := .code y_S_greatest b_S_greatest 3 (some .long) :: wG
abbrev b_S_addRow : ByteArray := prog_2_method_6_code
def y_S_addRow : MethodName := ⟨R_S, "addRow", "(IIJ)V"⟩
abbrev w_S_addRow : List Cond := .code y_S_addRow b_S_addRow 6 none :: wG
abbrev b_S_becomeMeeting : ByteArray := prog_2_method_7_code
def y_S_becomeMeeting : MethodName := ⟨R_S, "becomeMeeting", "(LLinearRows$Shape;LLinearRows$Shape;)V"⟩
abbrev w_S_becomeMeeting : List Cond := .code y_S_becomeMeeting b_S_becomeMeeting 5 none :: wG
abbrev b_S_becomeJoin : ByteArray := prog_2_method_8_code
def y_S_becomeJoin : MethodName := ⟨R_S, "becomeJoin", "(LLinearRows$Shape;LLinearRows$Shape;)V"⟩
abbrev w_S_becomeJoin : List Cond := .code y_S_becomeJoin b_S_becomeJoin 5 none :: wG
abbrev b_S_becomeWidened : ByteArray := prog_2_method_9_code
def y_S_becomeWidened : MethodName := ⟨R_S, "becomeWidened", "(LLinearRows$Shape;LLinearRows$Shape;)V"⟩
abbrev w_S_becomeWidened : List Cond := .code y_S_becomeWidened b_S_becomeWidened 7 none :: wG
abbrev b_S_becomeNarrowed : ByteArray := prog_2_method_10_code
def y_S_becomeNarrowed : MethodName := ⟨R_S, "becomeNarrowed", "(LLinearRows$Shape;LLinearRows$Shape;)V"⟩
abbrev w_S_becomeNarrowed : List Cond := .code y_S_becomeNarrowed b_S_becomeNarrowed 6 none :: wG
abbrev b_S_becomeAssigned : ByteArray := prog_2_method_11_code
def y_S_becomeAssigned : MethodName := ⟨R_S, "becomeAssigned", "(LLinearRows$Shape;IIJ)V"⟩
abbrev w_S_becomeAssigned : List Cond := .code y_S_becomeAssigned b_S_becomeAssigned 10 none :: wG
abbrev b_S_becomeFree : ByteArray := prog_2_method_12_code
def y_S_becomeFree : MethodName := ⟨R_S, "becomeFree", "(LLinearRows$Shape;I)V"⟩
abbrev w_S_becomeFree : List Cond := .code y_S_becomeFree b_S_becomeFree 4 none :: wG
abbrev b_S_sourceOf : ByteArray := prog_2_method_13_code
def y_S_sourceOf : MethodName := ⟨R_S, "sourceOf", "(III)I"⟩
abbrev w_S_sourceOf : List Cond := .code y_S_sourceOf b_S_sourceOf 4 (some .int) :: wG
abbrev b_S_addedTo : ByteArray := prog_2_method_14_code
def y_S_addedTo : MethodName := ⟨R_S, "addedTo", "(IIJ)J"⟩
abbrev w_S_addedTo : List Cond := .code y_S_addedTo b_S_addedTo 5 (some .long) :: wG
abbrev b_S_closeKeptRows : ByteArray := prog_2_method_15_code
def y_S_closeKeptRows : MethodName := ⟨R_S, "closeKeptRows", "()V"⟩
abbrev w_S_closeKeptRows : List Cond := .code y_S_closeKeptRows b_S_closeKeptRows 1 none :: wG
abbrev b_S_keepBounds : ByteArray := prog_2_method_16_code
def y_S_keepBounds : MethodName := ⟨R_S, "keepBounds", "()V"⟩
abbrev w_S_keepBounds : List Cond := .code y_S_keepBounds b_S_keepBounds 1 none :: wG
abbrev b_T_init : ByteArray := prog_3_method_1_code
def y_T_init : MethodName := ⟨R_T, "<init>", "(I)V"⟩
abbrev w_T_init : List Cond := .code y_T_init b_T_init 2 none :: wG
abbrev b_T_at : ByteArray := prog_3_method_2_code
def y_T_at : MethodName := ⟨R_T, "at", "(II)J"⟩
abbrev w_T_at : List Cond := .code y_T_at b_T_at 3 (some .long) :: wG
abbrev b_T_half : ByteArray := prog_3_method_3_code
def y_T_half : MethodName := ⟨R_T, "half", "(I)J"⟩
abbrev w_T_half : List Cond := .code y_T_half b_T_half 2 (some .long) :: wG
abbrev b_T_ofTerms : ByteArray := prog_3_method_4_code
def y_T_ofTerms : MethodName := ⟨R_T, "ofTerms", "(II)J"⟩
abbrev w_T_ofTerms : List Cond := .code y_T_ofTerms b_T_ofTerms 3 (some .long) :: wG
abbrev b_T_store : ByteArray := prog_3_method_5_code
def y_T_store : MethodName := ⟨R_T, "store", "(IIJ)V"⟩
abbrev w_T_store : List Cond := .code y_T_store b_T_store 5 none :: wG
abbrev b_T_lowerTo : ByteArray := prog_3_method_6_code
def y_T_lowerTo : MethodName := ⟨R_T, "lowerTo", "(IIJ)V"⟩
abbrev w_T_lowerTo : List Cond := .code y_T_lowerTo b_T_lowerTo 5 none :: wG
abbrev b_T_takeFrom : ByteArray := prog_3_method_7_code
def y_T_takeFrom : MethodName := ⟨R_T, "takeFrom", "(LLinearRows$Table;)V"⟩
abbrev w_T_takeFrom : List Cond := .code y_T_takeFrom b_T_takeFrom 2 none :: wG
abbrev b_T_dropRows : ByteArray := prog_3_method_8_code
def y_T_dropRows : MethodName := ⟨R_T, "dropRows", "()V"⟩
abbrev w_T_dropRows : List Cond := .code y_T_dropRows b_T_dropRows 1 none :: wG
abbrev b_T_storeOpposites : ByteArray := prog_3_method_9_code
def y_T_storeOpposites : MethodName := ⟨R_T, "storeOpposites", "(J)V"⟩
abbrev w_T_storeOpposites : List Cond := .code y_T_storeOpposites b_T_storeOpposites 4 none :: wG
abbrev b_T_countRows : ByteArray := prog_3_method_10_code
def y_T_countRows : MethodName := ⟨R_T, "countRows", "()I"⟩
abbrev w_T_countRows : List Cond := .code y_T_countRows b_T_countRows 4 (some .int) :: wG
abbrev b_T_isNowhereAbove : ByteArray := prog_3_method_11_code
def y_T_isNowhereAbove : MethodName := ⟨R_T, "isNowhereAbove", "(LLinearRows$Table;)Z"⟩
abbrev w_T_isNowhereAbove : List Cond := .code y_T_isNowhereAbove b_T_isNowhereAbove 4 (some .boolean) :: wG
abbrev b_T_isTooFar : ByteArray := prog_3_method_12_code
def y_T_isTooFar : MethodName := ⟨R_T, "isTooFar", "()Z"⟩
abbrev w_T_isTooFar : List Cond := .code y_T_isTooFar b_T_isTooFar 5 (some .boolean) :: wG
abbrev b_T_close : ByteArray := prog_3_method_13_code
def y_T_close : MethodName := ⟨R_T, "close", "()Z"⟩
abbrev w_T_close : List Cond := .code y_T_close b_T_close 2 (some .boolean) :: wG
abbrev b_T_chainThrough : ByteArray := prog_3_method_14_code
def y_T_chainThrough : MethodName := ⟨R_T, "chainThrough", "(I)V"⟩
abbrev w_T_chainThrough : List Cond := .code y_T_chainThrough b_T_chainThrough 10 none :: wG
abbrev b_T_hasOppositesBelowZero : ByteArray := prog_3_method_15_code
def y_T_hasOppositesBelowZero : MethodName := ⟨R_T, "hasOppositesBelowZero", "()Z"⟩
abbrev w_T_hasOppositesBelowZero : List Cond := .code y_T_hasOppositesBelowZero b_T_hasOppositesBelowZero 2 (some .boolean) :: wG
abbrev b_T_cutToEven : ByteArray := prog_3_method_16_code
def y_T_cutToEven : MethodName := ⟨R_T, "cutToEven", "()V"⟩
abbrev w_T_cutToEven : List Cond := .code y_T_cutToEven b_T_cutToEven 2 none :: wG
abbrev b_T_hasTwicesThatContradict : ByteArray := prog_3_method_17_code
def y_T_hasTwicesThatContradict : MethodName := ⟨R_T, "hasTwicesThatContradict", "()Z"⟩
abbrev w_T_hasTwicesThatContradict : List Cond := .code y_T_hasTwicesThatContradict b_T_hasTwicesThatContradict 2 (some .boolean) :: wG
abbrev b_T_addHalves : ByteArray := prog_3_method_18_code
def y_T_addHalves : MethodName := ⟨R_T, "addHalves", "()V"⟩
abbrev w_T_addHalves : List Cond := .code y_T_addHalves b_T_addHalves 3 none :: wG
abbrev b_L_cell : ByteArray := method_2_code
def y_L_cell : MethodName := ⟨R_L, "cell", "([II)I"⟩
abbrev w_L_cell : List Cond := .code y_L_cell b_L_cell 2 (some .int) :: wG
abbrev b_L_all : ByteArray := method_3_code
def y_L_all : MethodName := ⟨R_L, "all", "(LLinearRows;I)I"⟩
abbrev h_L_all : List (Nat × Nat × Nat × Nat) := [(0, 5, 8, 13)]
abbrev w_L_all : List Cond := .codeWith y_L_all b_L_all 3 (some .int) h_L_all :: wG
abbrev b_L_row : ByteArray := method_4_code
def y_L_row : MethodName := ⟨R_L, "row", "(LLinearRows;IIIJ[J)I"⟩
abbrev h_L_row : List (Nat × Nat × Nat × Nat) := [(0, 14, 17, 13), (0, 14, 21, 19), (0, 14, 25, 21)]
abbrev w_L_row : List Cond := .codeWith y_L_row b_L_row 8 (some .int) h_L_row :: wG
abbrev b_L_bound : ByteArray := method_5_code
def y_L_bound : MethodName := ⟨R_L, "bound", "(LLinearRows;III[J)I"⟩
abbrev h_L_bound : List (Nat × Nat × Nat × Nat) := [(0, 11, 14, 13)]
abbrev w_L_bound : List Cond := .codeWith y_L_bound b_L_bound 6 (some .int) h_L_bound :: wG
abbrev b_L_kept : ByteArray := method_6_code
def y_L_kept : MethodName := ⟨R_L, "kept", "(LLinearRows;III[J)I"⟩
abbrev h_L_kept : List (Nat × Nat × Nat × Nat) := [(0, 11, 14, 13)]
abbrev w_L_kept : List Cond := .codeWith y_L_kept b_L_kept 6 (some .int) h_L_kept :: wG
abbrev b_L_meet : ByteArray := method_7_code
def y_L_meet : MethodName := ⟨R_L, "meet", "(LLinearRows;III[J)I"⟩
abbrev h_L_meet : List (Nat × Nat × Nat × Nat) := [(0, 12, 15, 13), (0, 12, 19, 21)]
abbrev w_L_meet : List Cond := .codeWith y_L_meet b_L_meet 6 (some .int) h_L_meet :: wG
abbrev b_L_join : ByteArray := method_8_code
def y_L_join : MethodName := ⟨R_L, "join", "(LLinearRows;III[J)I"⟩
abbrev h_L_join : List (Nat × Nat × Nat × Nat) := [(0, 12, 15, 13)]
abbrev w_L_join : List Cond := .codeWith y_L_join b_L_join 6 (some .int) h_L_join :: wG
abbrev b_L_widen : ByteArray := method_9_code
def y_L_widen : MethodName := ⟨R_L, "widen", "(LLinearRows;III[J)I"⟩
abbrev h_L_widen : List (Nat × Nat × Nat × Nat) := [(0, 12, 15, 13), (0, 12, 19, 21)]
abbrev w_L_widen : List Cond := .codeWith y_L_widen b_L_widen 6 (some .int) h_L_widen :: wG
abbrev b_L_narrow : ByteArray := method_10_code
def y_L_narrow : MethodName := ⟨R_L, "narrow", "(LLinearRows;III[J)I"⟩
abbrev h_L_narrow : List (Nat × Nat × Nat × Nat) := [(0, 12, 15, 13), (0, 12, 19, 21)]
abbrev w_L_narrow : List Cond := .codeWith y_L_narrow b_L_narrow 6 (some .int) h_L_narrow :: wG
abbrev b_L_copy : ByteArray := method_11_code
def y_L_copy : MethodName := ⟨R_L, "copy", "(LLinearRows;II)I"⟩
abbrev h_L_copy : List (Nat × Nat × Nat × Nat) := [(0, 6, 9, 13)]
abbrev w_L_copy : List Cond := .codeWith y_L_copy b_L_copy 4 (some .int) h_L_copy :: wG
abbrev b_L_set : ByteArray := method_12_code
def y_L_set : MethodName := ⟨R_L, "set", "(LLinearRows;IIIJ[J)I"⟩
abbrev h_L_set : List (Nat × Nat × Nat × Nat) := [(0, 14, 17, 13), (0, 14, 21, 19), (0, 14, 25, 21)]
abbrev w_L_set : List Cond := .codeWith y_L_set b_L_set 8 (some .int) h_L_set :: wG
abbrev b_L_forget : ByteArray := method_13_code
def y_L_forget : MethodName := ⟨R_L, "forget", "(LLinearRows;II[J)I"⟩
abbrev h_L_forget : List (Nat × Nat × Nat × Nat) := [(0, 10, 13, 13)]
abbrev w_L_forget : List Cond := .codeWith y_L_forget b_L_forget 5 (some .int) h_L_forget :: wG
abbrev b_L_within : ByteArray := method_14_code
def y_L_within : MethodName := ⟨R_L, "within", "(LLinearRows;II[J)I"⟩
abbrev h_L_within : List (Nat × Nat × Nat × Nat) := [(0, 17, 20, 13)]
abbrev w_L_within : List Cond := .codeWith y_L_within b_L_within 5 (some .int) h_L_within :: wG
abbrev b_L_put : ByteArray := method_15_code
def y_L_put : MethodName := ⟨R_L, "put", "(LLinearRows;IJ[J)I"⟩
abbrev h_L_put : List (Nat × Nat × Nat × Nat) := [(0, 10, 13, 13), (0, 10, 17, 19)]
abbrev w_L_put : List Cond := .codeWith y_L_put b_L_put 6 (some .int) h_L_put :: wG
abbrev b_L_point : ByteArray := method_16_code
def y_L_point : MethodName := ⟨R_L, "point", "(LLinearRows;I[J)I"⟩
abbrev h_L_point : List (Nat × Nat × Nat × Nat) := [(0, 8, 11, 13)]
abbrev w_L_point : List Cond := .codeWith y_L_point b_L_point 4 (some .int) h_L_point :: wG
abbrev b_L_has : ByteArray := method_17_code
def y_L_has : MethodName := ⟨R_L, "has", "(LLinearRows;I[J)I"⟩
abbrev h_L_has : List (Nat × Nat × Nat × Nat) := [(0, 16, 19, 13)]
abbrev w_L_has : List Cond := .codeWith y_L_has b_L_has 4 (some .int) h_L_has :: wG
abbrev b_L_sample : ByteArray := method_18_code
def y_L_sample : MethodName := ⟨R_L, "sample", "(LLinearRows;I[J)I"⟩
abbrev h_L_sample : List (Nat × Nat × Nat × Nat) := [(0, 16, 19, 13)]
abbrev w_L_sample : List Cond := .codeWith y_L_sample b_L_sample 4 (some .int) h_L_sample :: wG
abbrev b_L_needed : ByteArray := method_19_code
def y_L_needed : MethodName := ⟨R_L, "needed", "(LLinearRows;I[J)I"⟩
abbrev h_L_needed : List (Nat × Nat × Nat × Nat) := [(0, 9, 12, 13)]
abbrev w_L_needed : List Cond := .codeWith y_L_needed b_L_needed 4 (some .int) h_L_needed :: wG
abbrev b_L_needs : ByteArray := method_20_code
def y_L_needs : MethodName := ⟨R_L, "needs", "(LLinearRows;II[J)I"⟩
abbrev h_L_needs : List (Nat × Nat × Nat × Nat) := [(0, 9, 12, 13)]
abbrev w_L_needs : List Cond := .codeWith y_L_needs b_L_needs 5 (some .int) h_L_needs :: wG
abbrev b_L_fits : ByteArray := method_21_code
def y_L_fits : MethodName := ⟨R_L, "fits", "(LLinearRows;III[J)I"⟩
abbrev h_L_fits : List (Nat × Nat × Nat × Nat) := [(0, 19, 22, 13), (0, 19, 26, 19)]
abbrev w_L_fits : List Cond := .codeWith y_L_fits b_L_fits 6 (some .int) h_L_fits :: wG
abbrev b_L_array : ByteArray := method_22_code
def y_L_array : MethodName := ⟨R_L, "array", "(LLinearRows;III[J)I"⟩
abbrev h_L_array : List (Nat × Nat × Nat × Nat) := [(0, 12, 15, 13)]
abbrev w_L_array : List Cond := .codeWith y_L_array b_L_array 6 (some .int) h_L_array :: wG
abbrev b_L_told : ByteArray := method_23_code
def y_L_told : MethodName := ⟨R_L, "told", "(LLinearRows;I[J)I"⟩
abbrev h_L_told : List (Nat × Nat × Nat × Nat) := [(0, 9, 12, 13)]
abbrev w_L_told : List Cond := .codeWith y_L_told b_L_told 4 (some .int) h_L_told :: wG
abbrev b_L_law : ByteArray := code
def y_L_law : MethodName := ⟨R_L, "law", "([I)Z"⟩
abbrev b_JM_floorDiv : ByteArray := prog_10_method_49_code
def y_JM_floorDiv : MethodName := ⟨R_JM, "floorDiv", "(JJ)J"⟩
abbrev w_JM_floorDiv : List Cond := .code y_JM_floorDiv b_JM_floorDiv 6 (some .long) :: wG
abbrev b_JM_max : ByteArray := prog_10_method_65_code
def y_JM_max : MethodName := ⟨R_JM, "max", "(II)I"⟩
abbrev w_JM_max : List Cond := .code y_JM_max b_JM_max 2 (some .int) :: wG
abbrev b_JM_max_JJJ : ByteArray := prog_10_method_66_code
def y_JM_max_JJJ : MethodName := ⟨R_JM, "max", "(JJ)J"⟩
abbrev w_JM_max_JJJ : List Cond := .code y_JM_max_JJJ b_JM_max_JJJ 4 (some .long) :: wG
abbrev b_JM_min : ByteArray := prog_10_method_69_code
def y_JM_min : MethodName := ⟨R_JM, "min", "(II)I"⟩
abbrev w_JM_min : List Cond := .code y_JM_min b_JM_min 2 (some .int) :: wG
abbrev b_JM_min_JJJ : ByteArray := prog_10_method_70_code
def y_JM_min_JJJ : MethodName := ⟨R_JM, "min", "(JJ)J"⟩
abbrev w_JM_min_JJJ : List Cond := .code y_JM_min_JJJ b_JM_min_JJJ 4 (some .long) :: wG
abbrev b_JA_fill : ByteArray := prog_15_method_101_code
def y_JA_fill : MethodName := ⟨R_JA, "fill", "([JJ)V"⟩
abbrev w_JA_fill : List Cond := .code y_JA_fill b_JA_fill 5 none :: wG
theorem wm_1_0 : Cond.initialized "LinearRowsLaw" ∈ wG := List.mem_filter.mpr ⟨List.mem_append_right _ (List.mem_append_left _ (List.mem_of_getElem? (i := 0) rfl)), rfl⟩
theorem wm_1_1 : Cond.initialized "LinearRows" ∈ wG := List.mem_filter.mpr ⟨List.mem_append_right _ (List.mem_append_left _ (List.mem_of_getElem? (i := 1) rfl)), rfl⟩
theorem wm_1_2 : Cond.initialized "java/lang/Math" ∈ wG := List.mem_filter.mpr ⟨List.mem_append_right _ (List.mem_append_left _ (List.mem_of_getElem? (i := 2) rfl)), rfl⟩
theorem wm_1_3 : Cond.initialized "LinearRows$Shape" ∈ wG := List.mem_filter.mpr ⟨List.mem_append_right _ (List.mem_append_left _ (List.mem_of_getElem? (i := 3) rfl)), rfl⟩
theorem wm_1_4 : Cond.initialized "LinearRows$Table" ∈ wG := List.mem_filter.mpr ⟨List.mem_append_right _ (List.mem_append_left _ (List.mem_of_getElem? (i := 4) rfl)), rfl⟩
theorem wm_1_5 : Cond.initialized "java/util/Arrays" ∈ wG := List.mem_filter.mpr ⟨List.mem_append_right _ (List.mem_append_left _ (List.mem_of_getElem? (i := 5) rfl)), rfl⟩
theorem wm_1_6 : Cond.initialized "LinearRowsModel" ∈ wG := List.mem_filter.mpr ⟨List.mem_append_right _ (List.mem_append_left _ (List.mem_of_getElem? (i := 6) rfl)), rfl⟩
theorem wm_1_7 : Cond.initialized "java/lang/Throwable" ∈ wG := List.mem_filter.mpr ⟨List.mem_append_right _ (List.mem_append_left _ (List.mem_of_getElem? (i := 7) rfl)), rfl⟩
theorem wm_1_8 : Cond.initialized "java/lang/Exception" ∈ wG := List.mem_filter.mpr ⟨List.mem_append_right _ (List.mem_append_left _ (List.mem_of_getElem? (i := 8) rfl)), rfl⟩
theorem wm_1_9 : Cond.initialized "java/lang/RuntimeException" ∈ wG := List.mem_filter.mpr ⟨List.mem_append_right _ (List.mem_append_left _ (List.mem_of_getElem? (i := 9) rfl)), rfl⟩
theorem wm_1_10 : Cond.initialized "java/lang/IndexOutOfBoundsException" ∈ wG := List.mem_filter.mpr ⟨List.mem_append_right _ (List.mem_append_left _ (List.mem_of_getElem? (i := 10) rfl)), rfl⟩
theorem wm_1_11 : Cond.initialized "java/lang/IllegalArgumentException" ∈ wG := List.mem_filter.mpr ⟨List.mem_append_right _ (List.mem_append_left _ (List.mem_of_getElem? (i := 11) rfl)), rfl⟩
theorem wm_1_12 : Cond.initialized "java/lang/System" ∈ wG := List.mem_filter.mpr ⟨List.mem_append_right _ (List.mem_append_left _ (List.mem_of_getElem? (i := 12) rfl)), rfl⟩
theorem wm_1_13 : Cond.initialized "java/lang/ArithmeticException" ∈ wG := List.mem_filter.mpr ⟨List.mem_append_right _ (List.mem_append_left _ (List.mem_of_getElem? (i := 13) rfl)), rfl⟩
theorem wm_1_14 : Cond.classLink "LinearRowsLaw" 8 "LinearRows" ∈ wG := List.mem_filter.mpr ⟨List.mem_append_right _ (List.mem_append_left _ (List.mem_of_getElem? (i := 14) rfl)), rfl⟩
theorem wm_1_15 : Cond.instantiable "LinearRows" 9 ∈ wG := List.mem_filter.mpr ⟨List.mem_append_right _ (List.mem_append_left _ (List.mem_of_getElem? (i := 15) rfl)), rfl⟩
theorem wm_1_16 : Cond.methodLink "LinearRowsLaw" 97 y_X_init ∈ wG := List.mem_filter.mpr ⟨List.mem_append_right _ (List.mem_append_left _ (List.mem_of_getElem? (i := 16) rfl)), rfl⟩
theorem wm_1_17 : Cond.instanceMethod y_X_init ∈ wG := List.mem_filter.mpr ⟨List.mem_append_right _ (List.mem_append_left _ (List.mem_of_getElem? (i := 17) rfl)), rfl⟩
theorem wm_1_18 : Cond.code y_X_init b_X_init 3 none ∈ wG := List.mem_filter.mpr ⟨List.mem_append_right _ (List.mem_append_left _ (List.mem_of_getElem? (i := 18) rfl)), rfl⟩
theorem wm_1_19 : Cond.methodLink "LinearRows" 1 ⟨"java/lang/Object", "<init>", "()V"⟩ ∈ wG := List.mem_filter.mpr ⟨List.mem_append_right _ (List.mem_append_left _ (List.mem_of_getElem? (i := 19) rfl)), rfl⟩
theorem wm_1_20 : Cond.instanceMethod ⟨"java/lang/Object", "<init>", "()V"⟩ ∈ wG := List.mem_filter.mpr ⟨List.mem_append_right _ (List.mem_append_left _ (List.mem_of_getElem? (i := 20) rfl)), rfl⟩
theorem wm_1_22 : Cond.methodLink "LinearRows" 9 y_JM_min ∈ wG := List.mem_filter.mpr ⟨List.mem_append_right _ (List.mem_append_left _ (List.mem_of_getElem? (i := 22) rfl)), rfl⟩
theorem wm_1_23 : Cond.static y_JM_min ∈ wG := List.mem_filter.mpr ⟨List.mem_append_right _ (List.mem_append_left _ (List.mem_of_getElem? (i := 23) rfl)), rfl⟩
theorem wm_1_24 : Cond.code y_JM_min b_JM_min 2 (some .int) ∈ wG := List.mem_filter.mpr ⟨List.mem_append_right _ (List.mem_append_left _ (List.mem_of_getElem? (i := 24) rfl)), rfl⟩
theorem wm_1_25 : Cond.methodLink "LinearRows" 15 y_JM_max ∈ wG := List.mem_filter.mpr ⟨List.mem_append_right _ (List.mem_append_left _ (List.mem_of_getElem? (i := 25) rfl)), rfl⟩
theorem wm_1_26 : Cond.static y_JM_max ∈ wG := List.mem_filter.mpr ⟨List.mem_append_right _ (List.mem_append_left _ (List.mem_of_getElem? (i := 26) rfl)), rfl⟩
theorem wm_1_27 : Cond.code y_JM_max b_JM_max 2 (some .int) ∈ wG := List.mem_filter.mpr ⟨List.mem_append_right _ (List.mem_append_left _ (List.mem_of_getElem? (i := 27) rfl)), rfl⟩
theorem wm_1_28 : Cond.classLink "LinearRows" 25 "LinearRows$Shape" ∈ wG := List.mem_filter.mpr ⟨List.mem_append_right _ (List.mem_append_left _ (List.mem_of_getElem? (i := 28) rfl)), rfl⟩
theorem wm_1_30 : Cond.instantiable "LinearRows$Shape" 4 ∈ wG := List.mem_filter.mpr ⟨List.mem_append_right _ (List.mem_append_left _ (List.mem_of_getElem? (i := 30) rfl)), rfl⟩
theorem wm_1_31 : Cond.methodLink "LinearRows" 31 y_S_init ∈ wG := List.mem_filter.mpr ⟨List.mem_append_right _ (List.mem_append_left _ (List.mem_of_getElem? (i := 31) rfl)), rfl⟩
theorem wm_1_32 : Cond.instanceMethod y_S_init ∈ wG := List.mem_filter.mpr ⟨List.mem_append_right _ (List.mem_append_left _ (List.mem_of_getElem? (i := 32) rfl)), rfl⟩
theorem wm_1_33 : Cond.code y_S_init b_S_init 2 none ∈ wG := List.mem_filter.mpr ⟨List.mem_append_right _ (List.mem_append_left _ (List.mem_of_getElem? (i := 33) rfl)), rfl⟩
theorem wm_1_34 : Cond.methodLink "LinearRows$Shape" 3 ⟨"java/lang/Object", "<init>", "()V"⟩ ∈ wG := List.mem_filter.mpr ⟨List.mem_append_right _ (List.mem_append_left _ (List.mem_of_getElem? (i := 34) rfl)), rfl⟩
theorem wm_1_35 : Cond.classLink "LinearRows$Shape" 15 "LinearRows$Table" ∈ wG := List.mem_filter.mpr ⟨List.mem_append_right _ (List.mem_append_left _ (List.mem_of_getElem? (i := 35) rfl)), rfl⟩
theorem wm_1_36 : Cond.instantiable "LinearRows$Table" 2 ∈ wG := List.mem_filter.mpr ⟨List.mem_append_right _ (List.mem_append_left _ (List.mem_of_getElem? (i := 36) rfl)), rfl⟩
theorem wm_1_37 : Cond.methodLink "LinearRows$Shape" 17 y_T_init ∈ wG := List.mem_filter.mpr ⟨List.mem_append_right _ (List.mem_append_left _ (List.mem_of_getElem? (i := 37) rfl)), rfl⟩
theorem wm_1_38 : Cond.instanceMethod y_T_init ∈ wG := List.mem_filter.mpr ⟨List.mem_append_right _ (List.mem_append_left _ (List.mem_of_getElem? (i := 38) rfl)), rfl⟩
theorem wm_1_39 : Cond.code y_T_init b_T_init 2 none ∈ wG := List.mem_filter.mpr ⟨List.mem_append_right _ (List.mem_append_left _ (List.mem_of_getElem? (i := 39) rfl)), rfl⟩
theorem wm_1_40 : Cond.methodLink "LinearRows$Table" 3 ⟨"java/lang/Object", "<init>", "()V"⟩ ∈ wG := List.mem_filter.mpr ⟨List.mem_append_right _ (List.mem_append_left _ (List.mem_of_getElem? (i := 40) rfl)), rfl⟩
theorem wm_1_41 : Cond.constantLong "LinearRows$Table" 19 4611686018427387904 ∈ wG := List.mem_filter.mpr ⟨List.mem_append_right _ (List.mem_append_left _ (List.mem_of_getElem? (i := 41) rfl)), rfl⟩
theorem wm_1_42 : Cond.methodLink "LinearRows$Table" 21 y_JA_fill ∈ wG := List.mem_filter.mpr ⟨List.mem_append_right _ (List.mem_append_left _ (List.mem_of_getElem? (i := 42) rfl)), rfl⟩
theorem wm_1_43 : Cond.static y_JA_fill ∈ wG := List.mem_filter.mpr ⟨List.mem_append_right _ (List.mem_append_left _ (List.mem_of_getElem? (i := 43) rfl)), rfl⟩
theorem wm_1_44 : Cond.code y_JA_fill b_JA_fill 5 none ∈ wG := List.mem_filter.mpr ⟨List.mem_append_right _ (List.mem_append_left _ (List.mem_of_getElem? (i := 44) rfl)), rfl⟩
theorem wm_1_45 : Cond.fieldLink "LinearRows$Table" 9 "LinearRows$Table" "size" "I" ∈ wG := List.mem_filter.mpr ⟨List.mem_append_right _ (List.mem_append_left _ (List.mem_of_getElem? (i := 45) rfl)), rfl⟩
theorem wm_1_46 : Cond.fieldLink "LinearRows$Table" 15 "LinearRows$Table" "cells" "[J" ∈ wG := List.mem_filter.mpr ⟨List.mem_append_right _ (List.mem_append_left _ (List.mem_of_getElem? (i := 46) rfl)), rfl⟩
theorem wm_1_47 : Cond.laysFinal "LinearRows$Table" "LinearRows$Table" "size" "I" ∈ wG := List.mem_filter.mpr ⟨List.mem_append_right _ (List.mem_append_left _ (List.mem_of_getElem? (i := 47) rfl)), rfl⟩
theorem wm_1_48 : Cond.soleField "LinearRows$Table" "size" ∈ wG := List.mem_filter.mpr ⟨List.mem_append_right _ (List.mem_append_left _ (List.mem_of_getElem? (i := 48) rfl)), rfl⟩
theorem wm_1_49 : Cond.laysFinal "LinearRows$Table" "LinearRows$Table" "cells" "[J" ∈ wG := List.mem_filter.mpr ⟨List.mem_append_right _ (List.mem_append_left _ (List.mem_of_getElem? (i := 49) rfl)), rfl⟩
theorem wm_1_50 : Cond.soleField "LinearRows$Table" "cells" ∈ wG := List.mem_filter.mpr ⟨List.mem_append_right _ (List.mem_append_left _ (List.mem_of_getElem? (i := 50) rfl)), rfl⟩
theorem wm_1_51 : Cond.superclass "LinearRows$Table" "java/lang/Object" ∈ wG := List.mem_filter.mpr ⟨List.mem_append_right _ (List.mem_append_left _ (List.mem_of_getElem? (i := 51) rfl)), rfl⟩
theorem wm_1_52 : Cond.arrayClass FieldType.long ∈ wG := List.mem_filter.mpr ⟨List.mem_append_right _ (List.mem_append_left _ (List.mem_of_getElem? (i := 52) rfl)), rfl⟩
theorem wm_1_53 : Cond.methodLink "LinearRows$Shape" 27 y_T_storeOpposites ∈ wG := List.mem_filter.mpr ⟨List.mem_append_right _ (List.mem_append_left _ (List.mem_of_getElem? (i := 53) rfl)), rfl⟩
theorem wm_1_54 : Cond.instanceMethod y_T_storeOpposites ∈ wG := List.mem_filter.mpr ⟨List.mem_append_right _ (List.mem_append_left _ (List.mem_of_getElem? (i := 54) rfl)), rfl⟩
theorem wm_1_55 : Cond.selects "LinearRows$Table" y_T_storeOpposites y_T_storeOpposites ∈ wG := List.mem_filter.mpr ⟨List.mem_append_right _ (List.mem_append_left _ (List.mem_of_getElem? (i := 55) rfl)), rfl⟩
theorem wm_1_56 : Cond.code y_T_storeOpposites b_T_storeOpposites 4 none ∈ wG := List.mem_filter.mpr ⟨List.mem_append_right _ (List.mem_append_left _ (List.mem_of_getElem? (i := 56) rfl)), rfl⟩
theorem wm_1_57 : Cond.fieldLink "LinearRows$Shape" 9 "LinearRows$Shape" "size" "I" ∈ wG := List.mem_filter.mpr ⟨List.mem_append_right _ (List.mem_append_left _ (List.mem_of_getElem? (i := 57) rfl)), rfl⟩
theorem wm_1_58 : Cond.fieldLink "LinearRows$Shape" 20 "LinearRows$Shape" "keptRows" "LLinearRows$Table;" ∈ wG := List.mem_filter.mpr ⟨List.mem_append_right _ (List.mem_append_left _ (List.mem_of_getElem? (i := 58) rfl)), rfl⟩
theorem wm_1_60 : Cond.fieldLink "LinearRows$Shape" 24 "LinearRows$Shape" "bounds" "LLinearRows$Table;" ∈ wG := List.mem_filter.mpr ⟨List.mem_append_right _ (List.mem_append_left _ (List.mem_of_getElem? (i := 60) rfl)), rfl⟩
theorem wm_1_62 : Cond.fieldLink "LinearRows$Shape" 31 "LinearRows$Shape" "empty" "Z" ∈ wG := List.mem_filter.mpr ⟨List.mem_append_right _ (List.mem_append_left _ (List.mem_of_getElem? (i := 62) rfl)), rfl⟩
theorem wm_1_64 : Cond.laysFinal "LinearRows$Shape" "LinearRows$Shape" "size" "I" ∈ wG := List.mem_filter.mpr ⟨List.mem_append_right _ (List.mem_append_left _ (List.mem_of_getElem? (i := 64) rfl)), rfl⟩
theorem wm_1_65 : Cond.soleField "LinearRows$Shape" "size" ∈ wG := List.mem_filter.mpr ⟨List.mem_append_right _ (List.mem_append_left _ (List.mem_of_getElem? (i := 65) rfl)), rfl⟩
theorem wm_1_66 : Cond.laysFinal "LinearRows$Shape" "LinearRows$Shape" "keptRows" "LLinearRows$Table;" ∈ wG := List.mem_filter.mpr ⟨List.mem_append_right _ (List.mem_append_left _ (List.mem_of_getElem? (i := 66) rfl)), rfl⟩
theorem wm_1_67 : Cond.soleField "LinearRows$Shape" "keptRows" ∈ wG := List.mem_filter.mpr ⟨List.mem_append_right _ (List.mem_append_left _ (List.mem_of_getElem? (i := 67) rfl)), rfl⟩
theorem wm_1_68 : Cond.laysFinal "LinearRows$Shape" "LinearRows$Shape" "bounds" "LLinearRows$Table;" ∈ wG := List.mem_filter.mpr ⟨List.mem_append_right _ (List.mem_append_left _ (List.mem_of_getElem? (i := 68) rfl)), rfl⟩
theorem wm_1_69 : Cond.soleField "LinearRows$Shape" "bounds" ∈ wG := List.mem_filter.mpr ⟨List.mem_append_right _ (List.mem_append_left _ (List.mem_of_getElem? (i := 69) rfl)), rfl⟩
theorem wm_1_70 : Cond.lays "LinearRows$Shape" "LinearRows$Shape" "empty" "Z" ∈ wG := List.mem_filter.mpr ⟨List.mem_append_right _ (List.mem_append_left _ (List.mem_of_getElem? (i := 70) rfl)), rfl⟩
theorem wm_1_71 : Cond.soleField "LinearRows$Shape" "empty" ∈ wG := List.mem_filter.mpr ⟨List.mem_append_right _ (List.mem_append_left _ (List.mem_of_getElem? (i := 71) rfl)), rfl⟩
theorem wm_1_72 : Cond.superclass "LinearRows$Shape" "java/lang/Object" ∈ wG := List.mem_filter.mpr ⟨List.mem_append_right _ (List.mem_append_left _ (List.mem_of_getElem? (i := 72) rfl)), rfl⟩
theorem wm_1_73 : Cond.classLink "LinearRows" 38 "LinearRows$Table" ∈ wG := List.mem_filter.mpr ⟨List.mem_append_right _ (List.mem_append_left _ (List.mem_of_getElem? (i := 73) rfl)), rfl⟩
theorem wm_1_74 : Cond.methodLink "LinearRows" 40 y_T_init ∈ wG := List.mem_filter.mpr ⟨List.mem_append_right _ (List.mem_append_left _ (List.mem_of_getElem? (i := 74) rfl)), rfl⟩
theorem wm_1_75 : Cond.fieldLink "LinearRows" 18 "LinearRows" "names" "I" ∈ wG := List.mem_filter.mpr ⟨List.mem_append_right _ (List.mem_append_left _ (List.mem_of_getElem? (i := 75) rfl)), rfl⟩
theorem wm_1_76 : Cond.fieldLink "LinearRows" 22 "LinearRows" "places" "I" ∈ wG := List.mem_filter.mpr ⟨List.mem_append_right _ (List.mem_append_left _ (List.mem_of_getElem? (i := 76) rfl)), rfl⟩
theorem wm_1_77 : Cond.fieldLink "LinearRows" 27 "LinearRows" "shapes" "[LLinearRows$Shape;" ∈ wG := List.mem_filter.mpr ⟨List.mem_append_right _ (List.mem_append_left _ (List.mem_of_getElem? (i := 77) rfl)), rfl⟩
theorem wm_1_78 : Cond.fieldLink "LinearRows" 34 "LinearRows" "made" "LLinearRows$Shape;" ∈ wG := List.mem_filter.mpr ⟨List.mem_append_right _ (List.mem_append_left _ (List.mem_of_getElem? (i := 78) rfl)), rfl⟩
theorem wm_1_79 : Cond.fieldLink "LinearRows" 41 "LinearRows" "left" "LLinearRows$Table;" ∈ wG := List.mem_filter.mpr ⟨List.mem_append_right _ (List.mem_append_left _ (List.mem_of_getElem? (i := 79) rfl)), rfl⟩
theorem wm_1_80 : Cond.fieldLink "LinearRows" 45 "LinearRows" "trial" "LLinearRows$Table;" ∈ wG := List.mem_filter.mpr ⟨List.mem_append_right _ (List.mem_append_left _ (List.mem_of_getElem? (i := 80) rfl)), rfl⟩
theorem wm_1_81 : Cond.fieldLink "LinearRows" 48 "LinearRows" "numbers" "[J" ∈ wG := List.mem_filter.mpr ⟨List.mem_append_right _ (List.mem_append_left _ (List.mem_of_getElem? (i := 81) rfl)), rfl⟩
theorem wm_1_82 : Cond.fieldLink "LinearRows" 52 "LinearRows" "neededRows" "[J" ∈ wG := List.mem_filter.mpr ⟨List.mem_append_right _ (List.mem_append_left _ (List.mem_of_getElem? (i := 82) rfl)), rfl⟩
theorem wm_1_83 : Cond.fieldLink "LinearRows" 55 "LinearRows" "neededCount" "I" ∈ wG := List.mem_filter.mpr ⟨List.mem_append_right _ (List.mem_append_left _ (List.mem_of_getElem? (i := 83) rfl)), rfl⟩
theorem wm_1_84 : Cond.laysFinal "LinearRows" "LinearRows" "names" "I" ∈ wG := List.mem_filter.mpr ⟨List.mem_append_right _ (List.mem_append_left _ (List.mem_of_getElem? (i := 84) rfl)), rfl⟩
theorem wm_1_85 : Cond.soleField "LinearRows" "names" ∈ wG := List.mem_filter.mpr ⟨List.mem_append_right _ (List.mem_append_left _ (List.mem_of_getElem? (i := 85) rfl)), rfl⟩
theorem wm_1_86 : Cond.laysFinal "LinearRows" "LinearRows" "places" "I" ∈ wG := List.mem_filter.mpr ⟨List.mem_append_right _ (List.mem_append_left _ (List.mem_of_getElem? (i := 86) rfl)), rfl⟩
theorem wm_1_87 : Cond.soleField "LinearRows" "places" ∈ wG := List.mem_filter.mpr ⟨List.mem_append_right _ (List.mem_append_left _ (List.mem_of_getElem? (i := 87) rfl)), rfl⟩
theorem wm_1_88 : Cond.laysFinal "LinearRows" "LinearRows" "shapes" "[LLinearRows$Shape;" ∈ wG := List.mem_filter.mpr ⟨List.mem_append_right _ (List.mem_append_left _ (List.mem_of_getElem? (i := 88) rfl)), rfl⟩
theorem wm_1_89 : Cond.soleField "LinearRows" "shapes" ∈ wG := List.mem_filter.mpr ⟨List.mem_append_right _ (List.mem_append_left _ (List.mem_of_getElem? (i := 89) rfl)), rfl⟩
theorem wm_1_90 : Cond.laysFinal "LinearRows" "LinearRows" "made" "LLinearRows$Shape;" ∈ wG := List.mem_filter.mpr ⟨List.mem_append_right _ (List.mem_append_left _ (List.mem_of_getElem? (i := 90) rfl)), rfl⟩
theorem wm_1_91 : Cond.soleField "LinearRows" "made" ∈ wG := List.mem_filter.mpr ⟨List.mem_append_right _ (List.mem_append_left _ (List.mem_of_getElem? (i := 91) rfl)), rfl⟩
theorem wm_1_92 : Cond.laysFinal "LinearRows" "LinearRows" "left" "LLinearRows$Table;" ∈ wG := List.mem_filter.mpr ⟨List.mem_append_right _ (List.mem_append_left _ (List.mem_of_getElem? (i := 92) rfl)), rfl⟩
theorem wm_1_93 : Cond.soleField "LinearRows" "left" ∈ wG := List.mem_filter.mpr ⟨List.mem_append_right _ (List.mem_append_left _ (List.mem_of_getElem? (i := 93) rfl)), rfl⟩
theorem wm_1_94 : Cond.laysFinal "LinearRows" "LinearRows" "trial" "LLinearRows$Table;" ∈ wG := List.mem_filter.mpr ⟨List.mem_append_right _ (List.mem_append_left _ (List.mem_of_getElem? (i := 94) rfl)), rfl⟩
theorem wm_1_95 : Cond.soleField "LinearRows" "trial" ∈ wG := List.mem_filter.mpr ⟨List.mem_append_right _ (List.mem_append_left _ (List.mem_of_getElem? (i := 95) rfl)), rfl⟩
theorem wm_1_96 : Cond.laysFinal "LinearRows" "LinearRows" "numbers" "[J" ∈ wG := List.mem_filter.mpr ⟨List.mem_append_right _ (List.mem_append_left _ (List.mem_of_getElem? (i := 96) rfl)), rfl⟩
theorem wm_1_97 : Cond.soleField "LinearRows" "numbers" ∈ wG := List.mem_filter.mpr ⟨List.mem_append_right _ (List.mem_append_left _ (List.mem_of_getElem? (i := 97) rfl)), rfl⟩
theorem wm_1_98 : Cond.laysFinal "LinearRows" "LinearRows" "neededRows" "[J" ∈ wG := List.mem_filter.mpr ⟨List.mem_append_right _ (List.mem_append_left _ (List.mem_of_getElem? (i := 98) rfl)), rfl⟩
theorem wm_1_99 : Cond.soleField "LinearRows" "neededRows" ∈ wG := List.mem_filter.mpr ⟨List.mem_append_right _ (List.mem_append_left _ (List.mem_of_getElem? (i := 99) rfl)), rfl⟩
theorem wm_1_100 : Cond.lays "LinearRows" "LinearRows" "neededCount" "I" ∈ wG := List.mem_filter.mpr ⟨List.mem_append_right _ (List.mem_append_left _ (List.mem_of_getElem? (i := 100) rfl)), rfl⟩
theorem wm_1_101 : Cond.soleField "LinearRows" "neededCount" ∈ wG := List.mem_filter.mpr ⟨List.mem_append_right _ (List.mem_append_left _ (List.mem_of_getElem? (i := 101) rfl)), rfl⟩
theorem wm_1_102 : Cond.superclass "LinearRows" "java/lang/Object" ∈ wG := List.mem_filter.mpr ⟨List.mem_append_right _ (List.mem_append_left _ (List.mem_of_getElem? (i := 102) rfl)), rfl⟩
theorem wm_1_103 : Cond.methodLink "LinearRowsLaw" 91 y_L_cell ∈ wG := List.mem_filter.mpr ⟨List.mem_append_right _ (List.mem_append_left _ (List.mem_of_getElem? (i := 103) rfl)), rfl⟩
theorem wm_1_104 : Cond.static y_L_cell ∈ wG := List.mem_filter.mpr ⟨List.mem_append_right _ (List.mem_append_left _ (List.mem_of_getElem? (i := 104) rfl)), rfl⟩
theorem wm_1_105 : Cond.code y_L_cell b_L_cell 2 (some .int) ∈ wG := List.mem_filter.mpr ⟨List.mem_append_right _ (List.mem_append_left _ (List.mem_of_getElem? (i := 105) rfl)), rfl⟩
theorem wm_1_106 : Cond.methodLink "LinearRowsLaw" 102 y_L_all ∈ wG := List.mem_filter.mpr ⟨List.mem_append_right _ (List.mem_append_left _ (List.mem_of_getElem? (i := 106) rfl)), rfl⟩
theorem wm_1_107 : Cond.static y_L_all ∈ wG := List.mem_filter.mpr ⟨List.mem_append_right _ (List.mem_append_left _ (List.mem_of_getElem? (i := 107) rfl)), rfl⟩
theorem wm_1_108 : Cond.codeWith y_L_all b_L_all 3 (some .int) h_L_all ∈ wG := List.mem_filter.mpr ⟨List.mem_append_right _ (List.mem_append_left _ (List.mem_of_getElem? (i := 108) rfl)), rfl⟩
theorem wm_1_109 : Cond.classLink "LinearRowsLaw" 13 "java/lang/IndexOutOfBoundsException" ∈ wG := List.mem_filter.mpr ⟨List.mem_append_right _ (List.mem_append_left _ (List.mem_of_getElem? (i := 109) rfl)), rfl⟩
theorem wm_1_110 : Cond.methodLink "LinearRowsLaw" 7 y_X_all ∈ wG := List.mem_filter.mpr ⟨List.mem_append_right _ (List.mem_append_left _ (List.mem_of_getElem? (i := 110) rfl)), rfl⟩
theorem wm_1_111 : Cond.instanceMethod y_X_all ∈ wG := List.mem_filter.mpr ⟨List.mem_append_right _ (List.mem_append_left _ (List.mem_of_getElem? (i := 111) rfl)), rfl⟩
theorem wm_1_112 : Cond.selects "LinearRows" y_X_all y_X_all ∈ wG := List.mem_filter.mpr ⟨List.mem_append_right _ (List.mem_append_left _ (List.mem_of_getElem? (i := 112) rfl)), rfl⟩
theorem wm_1_113 : Cond.code y_X_all b_X_all 2 none ∈ wG := List.mem_filter.mpr ⟨List.mem_append_right _ (List.mem_append_left _ (List.mem_of_getElem? (i := 113) rfl)), rfl⟩
theorem wm_1_114 : Cond.methodLink "LinearRows" 58 y_X_checkShape ∈ wG := List.mem_filter.mpr ⟨List.mem_append_right _ (List.mem_append_left _ (List.mem_of_getElem? (i := 114) rfl)), rfl⟩
theorem wm_1_115 : Cond.static y_X_checkShape ∈ wG := List.mem_filter.mpr ⟨List.mem_append_right _ (List.mem_append_left _ (List.mem_of_getElem? (i := 115) rfl)), rfl⟩
theorem wm_1_116 : Cond.code y_X_checkShape b_X_checkShape 1 none ∈ wG := List.mem_filter.mpr ⟨List.mem_append_right _ (List.mem_append_left _ (List.mem_of_getElem? (i := 116) rfl)), rfl⟩
theorem wm_1_117 : Cond.classLink "LinearRows" 163 "java/lang/IndexOutOfBoundsException" ∈ wG := List.mem_filter.mpr ⟨List.mem_append_right _ (List.mem_append_left _ (List.mem_of_getElem? (i := 117) rfl)), rfl⟩
theorem wm_1_118 : Cond.instantiable "java/lang/IndexOutOfBoundsException" 6 ∈ wG := List.mem_filter.mpr ⟨List.mem_append_right _ (List.mem_append_left _ (List.mem_of_getElem? (i := 118) rfl)), rfl⟩
theorem wm_1_126 : Cond.selects "java/lang/IndexOutOfBoundsException" ⟨"java/lang/Throwable", "fillInStackTrace", "(I)Ljava/lang/Throwable;"⟩ ⟨"java/lang/Throwable", "fillInStackTrace", "(I)Ljava/lang/Throwable;"⟩ ∈ wG := List.mem_filter.mpr ⟨List.mem_append_right _ (List.mem_append_left _ (List.mem_of_getElem? (i := 126) rfl)), rfl⟩
theorem wm_1_127 : Cond.selects "java/lang/IndexOutOfBoundsException" ⟨"java/lang/Throwable", "fillInStackTrace", "()Ljava/lang/Throwable;"⟩ ⟨"java/lang/Throwable", "fillInStackTrace", "()Ljava/lang/Throwable;"⟩ ∈ wG := List.mem_filter.mpr ⟨List.mem_append_right _ (List.mem_append_left _ (List.mem_of_getElem? (i := 127) rfl)), rfl⟩
theorem wm_1_128 : Cond.lays "java/lang/IndexOutOfBoundsException" "java/lang/Throwable" "cause" "Ljava/lang/Throwable;" ∈ wG := List.mem_filter.mpr ⟨List.mem_append_right _ (List.mem_append_left _ (List.mem_of_getElem? (i := 128) rfl)), rfl⟩
theorem wm_1_129 : Cond.lays "java/lang/Throwable" "java/lang/Throwable" "cause" "Ljava/lang/Throwable;" ∈ wG := List.mem_filter.mpr ⟨List.mem_append_right _ (List.mem_append_left _ (List.mem_of_getElem? (i := 129) rfl)), rfl⟩
theorem wm_1_130 : Cond.lays "java/lang/IndexOutOfBoundsException" "java/lang/Throwable" "stackTrace" "[Ljava/lang/StackTraceElement;" ∈ wG := List.mem_filter.mpr ⟨List.mem_append_right _ (List.mem_append_left _ (List.mem_of_getElem? (i := 130) rfl)), rfl⟩
theorem wm_1_131 : Cond.lays "java/lang/Throwable" "java/lang/Throwable" "stackTrace" "[Ljava/lang/StackTraceElement;" ∈ wG := List.mem_filter.mpr ⟨List.mem_append_right _ (List.mem_append_left _ (List.mem_of_getElem? (i := 131) rfl)), rfl⟩
theorem wm_1_132 : Cond.lays "java/lang/IndexOutOfBoundsException" "java/lang/Throwable" "suppressedExceptions" "Ljava/util/List;" ∈ wG := List.mem_filter.mpr ⟨List.mem_append_right _ (List.mem_append_left _ (List.mem_of_getElem? (i := 132) rfl)), rfl⟩
theorem wm_1_133 : Cond.lays "java/lang/Throwable" "java/lang/Throwable" "suppressedExceptions" "Ljava/util/List;" ∈ wG := List.mem_filter.mpr ⟨List.mem_append_right _ (List.mem_append_left _ (List.mem_of_getElem? (i := 133) rfl)), rfl⟩
theorem wm_1_134 : Cond.lays "java/lang/IndexOutOfBoundsException" "java/lang/Throwable" "detailMessage" "Ljava/lang/String;" ∈ wG := List.mem_filter.mpr ⟨List.mem_append_right _ (List.mem_append_left _ (List.mem_of_getElem? (i := 134) rfl)), rfl⟩
theorem wm_1_135 : Cond.lays "java/lang/Throwable" "java/lang/Throwable" "detailMessage" "Ljava/lang/String;" ∈ wG := List.mem_filter.mpr ⟨List.mem_append_right _ (List.mem_append_left _ (List.mem_of_getElem? (i := 135) rfl)), rfl⟩
theorem wm_1_136 : Cond.lays "java/lang/IndexOutOfBoundsException" "java/lang/Throwable" "backtrace" "Ljava/lang/Object;" ∈ wG := List.mem_filter.mpr ⟨List.mem_append_right _ (List.mem_append_left _ (List.mem_of_getElem? (i := 136) rfl)), rfl⟩
theorem wm_1_137 : Cond.lays "java/lang/Throwable" "java/lang/Throwable" "backtrace" "Ljava/lang/Object;" ∈ wG := List.mem_filter.mpr ⟨List.mem_append_right _ (List.mem_append_left _ (List.mem_of_getElem? (i := 137) rfl)), rfl⟩
theorem wm_1_138 : Cond.fieldLink "java/lang/Throwable" 198 "java/lang/Throwable" "backtrace" "Ljava/lang/Object;" ∈ wG := List.mem_filter.mpr ⟨List.mem_append_right _ (List.mem_append_left _ (List.mem_of_getElem? (i := 138) rfl)), rfl⟩
theorem wm_1_139 : Cond.superclass "java/lang/Throwable" "java/lang/Object" ∈ wG := List.mem_filter.mpr ⟨List.mem_append_right _ (List.mem_append_left _ (List.mem_of_getElem? (i := 139) rfl)), rfl⟩
theorem wm_1_140 : Cond.instanceMethod ⟨"java/lang/Throwable", "<init>", "()V"⟩ ∈ wG := List.mem_filter.mpr ⟨List.mem_append_right _ (List.mem_append_left _ (List.mem_of_getElem? (i := 140) rfl)), rfl⟩
theorem wm_1_142 : Cond.methodLink "java/lang/Throwable" 1 ⟨"java/lang/Object", "<init>", "()V"⟩ ∈ wG := List.mem_filter.mpr ⟨List.mem_append_right _ (List.mem_append_left _ (List.mem_of_getElem? (i := 142) rfl)), rfl⟩
theorem wm_1_143 : Cond.fieldLink "java/lang/Throwable" 13 "java/lang/Throwable" "UNASSIGNED_STACK" "[Ljava/lang/StackTraceElement;" ∈ wG := List.mem_filter.mpr ⟨List.mem_append_right _ (List.mem_append_left _ (List.mem_of_getElem? (i := 143) rfl)), rfl⟩
theorem wm_1_145 : Cond.fieldLink "java/lang/Throwable" 20 "java/lang/Throwable" "SUPPRESSED_SENTINEL" "Ljava/util/List;" ∈ wG := List.mem_filter.mpr ⟨List.mem_append_right _ (List.mem_append_left _ (List.mem_of_getElem? (i := 145) rfl)), rfl⟩
theorem wm_1_147 : Cond.methodLink "java/lang/Throwable" 27 ⟨"java/lang/Throwable", "fillInStackTrace", "()Ljava/lang/Throwable;"⟩ ∈ wG := List.mem_filter.mpr ⟨List.mem_append_right _ (List.mem_append_left _ (List.mem_of_getElem? (i := 147) rfl)), rfl⟩
theorem wm_1_148 : Cond.instanceMethod ⟨"java/lang/Throwable", "fillInStackTrace", "()Ljava/lang/Throwable;"⟩ ∈ wG := List.mem_filter.mpr ⟨List.mem_append_right _ (List.mem_append_left _ (List.mem_of_getElem? (i := 148) rfl)), rfl⟩
theorem wm_1_150 : Cond.selects "java/lang/ArithmeticException" ⟨"java/lang/Throwable", "fillInStackTrace", "()Ljava/lang/Throwable;"⟩ ⟨"java/lang/Throwable", "fillInStackTrace", "()Ljava/lang/Throwable;"⟩ ∈ wG := List.mem_filter.mpr ⟨List.mem_append_right _ (List.mem_append_left _ (List.mem_of_getElem? (i := 150) rfl)), rfl⟩
theorem wm_1_151 : Cond.selects "java/lang/IllegalArgumentException" ⟨"java/lang/Throwable", "fillInStackTrace", "()Ljava/lang/Throwable;"⟩ ⟨"java/lang/Throwable", "fillInStackTrace", "()Ljava/lang/Throwable;"⟩ ∈ wG := List.mem_filter.mpr ⟨List.mem_append_right _ (List.mem_append_left _ (List.mem_of_getElem? (i := 151) rfl)), rfl⟩
theorem wm_1_153 : Cond.methodLink "java/lang/Throwable" 202 ⟨"java/lang/Throwable", "fillInStackTrace", "(I)Ljava/lang/Throwable;"⟩ ∈ wG := List.mem_filter.mpr ⟨List.mem_append_right _ (List.mem_append_left _ (List.mem_of_getElem? (i := 153) rfl)), rfl⟩
theorem wm_1_155 : Cond.instanceMethod ⟨"java/lang/Throwable", "fillInStackTrace", "(I)Ljava/lang/Throwable;"⟩ ∈ wG := List.mem_filter.mpr ⟨List.mem_append_right _ (List.mem_append_left _ (List.mem_of_getElem? (i := 155) rfl)), rfl⟩
theorem wm_1_156 : Cond.instantiable "java/lang/Throwable" 6 ∈ wG := List.mem_filter.mpr ⟨List.mem_append_right _ (List.mem_append_left _ (List.mem_of_getElem? (i := 156) rfl)), rfl⟩
theorem wm_1_157 : Cond.native ⟨"java/lang/Throwable", "fillInStackTrace", "(I)Ljava/lang/Throwable;"⟩ ∈ wG := List.mem_filter.mpr ⟨List.mem_append_right _ (List.mem_append_left _ (List.mem_of_getElem? (i := 157) rfl)), rfl⟩
theorem wm_1_159 : Cond.methodLink "LinearRows" 167 ⟨"java/lang/IndexOutOfBoundsException", "<init>", "(Ljava/lang/String;)V"⟩ ∈ wG := List.mem_filter.mpr ⟨List.mem_append_right _ (List.mem_append_left _ (List.mem_of_getElem? (i := 159) rfl)), rfl⟩
theorem wm_1_160 : Cond.instanceMethod ⟨"java/lang/IndexOutOfBoundsException", "<init>", "(Ljava/lang/String;)V"⟩ ∈ wG := List.mem_filter.mpr ⟨List.mem_append_right _ (List.mem_append_left _ (List.mem_of_getElem? (i := 160) rfl)), rfl⟩
theorem wm_1_162 : Cond.methodLink "java/lang/IndexOutOfBoundsException" 7 ⟨"java/lang/RuntimeException", "<init>", "(Ljava/lang/String;)V"⟩ ∈ wG := List.mem_filter.mpr ⟨List.mem_append_right _ (List.mem_append_left _ (List.mem_of_getElem? (i := 162) rfl)), rfl⟩
theorem wm_1_163 : Cond.instanceMethod ⟨"java/lang/RuntimeException", "<init>", "(Ljava/lang/String;)V"⟩ ∈ wG := List.mem_filter.mpr ⟨List.mem_append_right _ (List.mem_append_left _ (List.mem_of_getElem? (i := 163) rfl)), rfl⟩
theorem wm_1_165 : Cond.methodLink "java/lang/RuntimeException" 7 ⟨"java/lang/Exception", "<init>", "(Ljava/lang/String;)V"⟩ ∈ wG := List.mem_filter.mpr ⟨List.mem_append_right _ (List.mem_append_left _ (List.mem_of_getElem? (i := 165) rfl)), rfl⟩
theorem wm_1_166 : Cond.instanceMethod ⟨"java/lang/Exception", "<init>", "(Ljava/lang/String;)V"⟩ ∈ wG := List.mem_filter.mpr ⟨List.mem_append_right _ (List.mem_append_left _ (List.mem_of_getElem? (i := 166) rfl)), rfl⟩
theorem wm_1_168 : Cond.methodLink "java/lang/Exception" 7 ⟨"java/lang/Throwable", "<init>", "(Ljava/lang/String;)V"⟩ ∈ wG := List.mem_filter.mpr ⟨List.mem_append_right _ (List.mem_append_left _ (List.mem_of_getElem? (i := 168) rfl)), rfl⟩
theorem wm_1_169 : Cond.instanceMethod ⟨"java/lang/Throwable", "<init>", "(Ljava/lang/String;)V"⟩ ∈ wG := List.mem_filter.mpr ⟨List.mem_append_right _ (List.mem_append_left _ (List.mem_of_getElem? (i := 169) rfl)), rfl⟩
theorem wm_1_171 : Cond.fieldLink "java/lang/Throwable" 198 "java/lang/Throwable" "backtrace" "Ljava/lang/Object;" ∈ wG := List.mem_filter.mpr ⟨List.mem_append_right _ (List.mem_append_left _ (List.mem_of_getElem? (i := 171) rfl)), rfl⟩
theorem wm_1_172 : Cond.fieldLink "java/lang/Throwable" 31 "java/lang/Throwable" "detailMessage" "Ljava/lang/String;" ∈ wG := List.mem_filter.mpr ⟨List.mem_append_right _ (List.mem_append_left _ (List.mem_of_getElem? (i := 172) rfl)), rfl⟩
theorem wm_1_173 : Cond.fieldLink "java/lang/Throwable" 7 "java/lang/Throwable" "cause" "Ljava/lang/Throwable;" ∈ wG := List.mem_filter.mpr ⟨List.mem_append_right _ (List.mem_append_left _ (List.mem_of_getElem? (i := 173) rfl)), rfl⟩
theorem wm_1_174 : Cond.fieldLink "java/lang/Throwable" 17 "java/lang/Throwable" "stackTrace" "[Ljava/lang/StackTraceElement;" ∈ wG := List.mem_filter.mpr ⟨List.mem_append_right _ (List.mem_append_left _ (List.mem_of_getElem? (i := 174) rfl)), rfl⟩
theorem wm_1_175 : Cond.fieldLink "java/lang/Throwable" 24 "java/lang/Throwable" "suppressedExceptions" "Ljava/util/List;" ∈ wG := List.mem_filter.mpr ⟨List.mem_append_right _ (List.mem_append_left _ (List.mem_of_getElem? (i := 175) rfl)), rfl⟩
theorem wm_1_176 : Cond.soleField "java/lang/Throwable" "backtrace" ∈ wG := List.mem_filter.mpr ⟨List.mem_append_right _ (List.mem_append_left _ (List.mem_of_getElem? (i := 176) rfl)), rfl⟩
theorem wm_1_177 : Cond.soleField "java/lang/Throwable" "detailMessage" ∈ wG := List.mem_filter.mpr ⟨List.mem_append_right _ (List.mem_append_left _ (List.mem_of_getElem? (i := 177) rfl)), rfl⟩
theorem wm_1_178 : Cond.soleField "java/lang/Throwable" "cause" ∈ wG := List.mem_filter.mpr ⟨List.mem_append_right _ (List.mem_append_left _ (List.mem_of_getElem? (i := 178) rfl)), rfl⟩
theorem wm_1_179 : Cond.soleField "java/lang/Throwable" "stackTrace" ∈ wG := List.mem_filter.mpr ⟨List.mem_append_right _ (List.mem_append_left _ (List.mem_of_getElem? (i := 179) rfl)), rfl⟩
theorem wm_1_180 : Cond.lays "java/lang/IndexOutOfBoundsException" "java/lang/Throwable" "depth" "I" ∈ wG := List.mem_filter.mpr ⟨List.mem_append_right _ (List.mem_append_left _ (List.mem_of_getElem? (i := 180) rfl)), rfl⟩
theorem wm_1_181 : Cond.soleField "java/lang/Throwable" "depth" ∈ wG := List.mem_filter.mpr ⟨List.mem_append_right _ (List.mem_append_left _ (List.mem_of_getElem? (i := 181) rfl)), rfl⟩
theorem wm_1_182 : Cond.soleField "java/lang/Throwable" "suppressedExceptions" ∈ wG := List.mem_filter.mpr ⟨List.mem_append_right _ (List.mem_append_left _ (List.mem_of_getElem? (i := 182) rfl)), rfl⟩
theorem wm_1_183 : Cond.superclass "java/lang/IndexOutOfBoundsException" "java/lang/RuntimeException" ∈ wG := List.mem_filter.mpr ⟨List.mem_append_right _ (List.mem_append_left _ (List.mem_of_getElem? (i := 183) rfl)), rfl⟩
theorem wm_1_184 : Cond.arrayClass FieldType.byte ∈ wG := List.mem_filter.mpr ⟨List.mem_append_right _ (List.mem_append_left _ (List.mem_of_getElem? (i := 184) rfl)), rfl⟩
theorem wm_1_185 : Cond.methodLink "LinearRows" 61 y_S_becomeAll ∈ wG := List.mem_filter.mpr ⟨List.mem_append_right _ (List.mem_append_left _ (List.mem_of_getElem? (i := 185) rfl)), rfl⟩
theorem wm_1_186 : Cond.instanceMethod y_S_becomeAll ∈ wG := List.mem_filter.mpr ⟨List.mem_append_right _ (List.mem_append_left _ (List.mem_of_getElem? (i := 186) rfl)), rfl⟩
theorem wm_1_187 : Cond.selects "LinearRows$Shape" y_S_becomeAll y_S_becomeAll ∈ wG := List.mem_filter.mpr ⟨List.mem_append_right _ (List.mem_append_left _ (List.mem_of_getElem? (i := 187) rfl)), rfl⟩
theorem wm_1_188 : Cond.code y_S_becomeAll b_S_becomeAll 1 none ∈ wG := List.mem_filter.mpr ⟨List.mem_append_right _ (List.mem_append_left _ (List.mem_of_getElem? (i := 188) rfl)), rfl⟩
theorem wm_1_189 : Cond.methodLink "LinearRows$Shape" 35 y_T_dropRows ∈ wG := List.mem_filter.mpr ⟨List.mem_append_right _ (List.mem_append_left _ (List.mem_of_getElem? (i := 189) rfl)), rfl⟩
theorem wm_1_190 : Cond.instanceMethod y_T_dropRows ∈ wG := List.mem_filter.mpr ⟨List.mem_append_right _ (List.mem_append_left _ (List.mem_of_getElem? (i := 190) rfl)), rfl⟩
theorem wm_1_191 : Cond.selects "LinearRows$Table" y_T_dropRows y_T_dropRows ∈ wG := List.mem_filter.mpr ⟨List.mem_append_right _ (List.mem_append_left _ (List.mem_of_getElem? (i := 191) rfl)), rfl⟩
theorem wm_1_192 : Cond.code y_T_dropRows b_T_dropRows 1 none ∈ wG := List.mem_filter.mpr ⟨List.mem_append_right _ (List.mem_append_left _ (List.mem_of_getElem? (i := 192) rfl)), rfl⟩
theorem wm_1_193 : Cond.methodLink "LinearRowsLaw" 112 y_L_row ∈ wG := List.mem_filter.mpr ⟨List.mem_append_right _ (List.mem_append_left _ (List.mem_of_getElem? (i := 193) rfl)), rfl⟩
theorem wm_1_194 : Cond.static y_L_row ∈ wG := List.mem_filter.mpr ⟨List.mem_append_right _ (List.mem_append_left _ (List.mem_of_getElem? (i := 194) rfl)), rfl⟩
theorem wm_1_195 : Cond.codeWith y_L_row b_L_row 8 (some .int) h_L_row ∈ wG := List.mem_filter.mpr ⟨List.mem_append_right _ (List.mem_append_left _ (List.mem_of_getElem? (i := 195) rfl)), rfl⟩
theorem wm_1_196 : Cond.classLink "LinearRowsLaw" 19 "java/lang/IllegalArgumentException" ∈ wG := List.mem_filter.mpr ⟨List.mem_append_right _ (List.mem_append_left _ (List.mem_of_getElem? (i := 196) rfl)), rfl⟩
theorem wm_1_197 : Cond.classLink "LinearRowsLaw" 21 "java/lang/ArithmeticException" ∈ wG := List.mem_filter.mpr ⟨List.mem_append_right _ (List.mem_append_left _ (List.mem_of_getElem? (i := 197) rfl)), rfl⟩
theorem wm_1_198 : Cond.methodLink "LinearRowsLaw" 15 y_X_row ∈ wG := List.mem_filter.mpr ⟨List.mem_append_right _ (List.mem_append_left _ (List.mem_of_getElem? (i := 198) rfl)), rfl⟩
theorem wm_1_199 : Cond.instanceMethod y_X_row ∈ wG := List.mem_filter.mpr ⟨List.mem_append_right _ (List.mem_append_left _ (List.mem_of_getElem? (i := 199) rfl)), rfl⟩
theorem wm_1_200 : Cond.selects "LinearRows" y_X_row y_X_row ∈ wG := List.mem_filter.mpr ⟨List.mem_append_right _ (List.mem_append_left _ (List.mem_of_getElem? (i := 200) rfl)), rfl⟩
theorem wm_1_201 : Cond.code y_X_row b_X_row 6 (some .int) ∈ wG := List.mem_filter.mpr ⟨List.mem_append_right _ (List.mem_append_left _ (List.mem_of_getElem? (i := 201) rfl)), rfl⟩
theorem wm_1_202 : Cond.methodLink "LinearRows" 64 y_X_checkTerm ∈ wG := List.mem_filter.mpr ⟨List.mem_append_right _ (List.mem_append_left _ (List.mem_of_getElem? (i := 202) rfl)), rfl⟩
theorem wm_1_204 : Cond.instanceMethod y_X_checkTerm ∈ wG := List.mem_filter.mpr ⟨List.mem_append_right _ (List.mem_append_left _ (List.mem_of_getElem? (i := 204) rfl)), rfl⟩
theorem wm_1_205 : Cond.code y_X_checkTerm b_X_checkTerm 2 none ∈ wG := List.mem_filter.mpr ⟨List.mem_append_right _ (List.mem_append_left _ (List.mem_of_getElem? (i := 205) rfl)), rfl⟩
theorem wm_1_207 : Cond.methodLink "LinearRows" 67 y_X_checkGiven ∈ wG := List.mem_filter.mpr ⟨List.mem_append_right _ (List.mem_append_left _ (List.mem_of_getElem? (i := 207) rfl)), rfl⟩
theorem wm_1_208 : Cond.static y_X_checkGiven ∈ wG := List.mem_filter.mpr ⟨List.mem_append_right _ (List.mem_append_left _ (List.mem_of_getElem? (i := 208) rfl)), rfl⟩
theorem wm_1_209 : Cond.code y_X_checkGiven b_X_checkGiven 2 none ∈ wG := List.mem_filter.mpr ⟨List.mem_append_right _ (List.mem_append_left _ (List.mem_of_getElem? (i := 209) rfl)), rfl⟩
theorem wm_1_210 : Cond.constantLong "LinearRows" 202 (-1000000000) ∈ wG := List.mem_filter.mpr ⟨List.mem_append_right _ (List.mem_append_left _ (List.mem_of_getElem? (i := 210) rfl)), rfl⟩
theorem wm_1_211 : Cond.constantLong "LinearRows" 204 1000000000 ∈ wG := List.mem_filter.mpr ⟨List.mem_append_right _ (List.mem_append_left _ (List.mem_of_getElem? (i := 211) rfl)), rfl⟩
theorem wm_1_212 : Cond.classLink "LinearRows" 170 "java/lang/IllegalArgumentException" ∈ wG := List.mem_filter.mpr ⟨List.mem_append_right _ (List.mem_append_left _ (List.mem_of_getElem? (i := 212) rfl)), rfl⟩
theorem wm_1_213 : Cond.instantiable "java/lang/IllegalArgumentException" 6 ∈ wG := List.mem_filter.mpr ⟨List.mem_append_right _ (List.mem_append_left _ (List.mem_of_getElem? (i := 213) rfl)), rfl⟩
theorem wm_1_215 : Cond.selects "java/lang/IllegalArgumentException" ⟨"java/lang/Throwable", "fillInStackTrace", "(I)Ljava/lang/Throwable;"⟩ ⟨"java/lang/Throwable", "fillInStackTrace", "(I)Ljava/lang/Throwable;"⟩ ∈ wG := List.mem_filter.mpr ⟨List.mem_append_right _ (List.mem_append_left _ (List.mem_of_getElem? (i := 215) rfl)), rfl⟩
theorem wm_1_216 : Cond.lays "java/lang/IllegalArgumentException" "java/lang/Throwable" "cause" "Ljava/lang/Throwable;" ∈ wG := List.mem_filter.mpr ⟨List.mem_append_right _ (List.mem_append_left _ (List.mem_of_getElem? (i := 216) rfl)), rfl⟩
theorem wm_1_217 : Cond.lays "java/lang/IllegalArgumentException" "java/lang/Throwable" "stackTrace" "[Ljava/lang/StackTraceElement;" ∈ wG := List.mem_filter.mpr ⟨List.mem_append_right _ (List.mem_append_left _ (List.mem_of_getElem? (i := 217) rfl)), rfl⟩
theorem wm_1_218 : Cond.lays "java/lang/IllegalArgumentException" "java/lang/Throwable" "suppressedExceptions" "Ljava/util/List;" ∈ wG := List.mem_filter.mpr ⟨List.mem_append_right _ (List.mem_append_left _ (List.mem_of_getElem? (i := 218) rfl)), rfl⟩
theorem wm_1_219 : Cond.lays "java/lang/IllegalArgumentException" "java/lang/Throwable" "detailMessage" "Ljava/lang/String;" ∈ wG := List.mem_filter.mpr ⟨List.mem_append_right _ (List.mem_append_left _ (List.mem_of_getElem? (i := 219) rfl)), rfl⟩
theorem wm_1_220 : Cond.lays "java/lang/IllegalArgumentException" "java/lang/Throwable" "backtrace" "Ljava/lang/Object;" ∈ wG := List.mem_filter.mpr ⟨List.mem_append_right _ (List.mem_append_left _ (List.mem_of_getElem? (i := 220) rfl)), rfl⟩
theorem wm_1_222 : Cond.methodLink "LinearRows" 174 ⟨"java/lang/IllegalArgumentException", "<init>", "(Ljava/lang/String;)V"⟩ ∈ wG := List.mem_filter.mpr ⟨List.mem_append_right _ (List.mem_append_left _ (List.mem_of_getElem? (i := 222) rfl)), rfl⟩
theorem wm_1_223 : Cond.instanceMethod ⟨"java/lang/IllegalArgumentException", "<init>", "(Ljava/lang/String;)V"⟩ ∈ wG := List.mem_filter.mpr ⟨List.mem_append_right _ (List.mem_append_left _ (List.mem_of_getElem? (i := 223) rfl)), rfl⟩
theorem wm_1_225 : Cond.methodLink "java/lang/IllegalArgumentException" 7 ⟨"java/lang/RuntimeException", "<init>", "(Ljava/lang/String;)V"⟩ ∈ wG := List.mem_filter.mpr ⟨List.mem_append_right _ (List.mem_append_left _ (List.mem_of_getElem? (i := 225) rfl)), rfl⟩
theorem wm_1_226 : Cond.lays "java/lang/IllegalArgumentException" "java/lang/Throwable" "depth" "I" ∈ wG := List.mem_filter.mpr ⟨List.mem_append_right _ (List.mem_append_left _ (List.mem_of_getElem? (i := 226) rfl)), rfl⟩
theorem wm_1_227 : Cond.superclass "java/lang/IllegalArgumentException" "java/lang/RuntimeException" ∈ wG := List.mem_filter.mpr ⟨List.mem_append_right _ (List.mem_append_left _ (List.mem_of_getElem? (i := 227) rfl)), rfl⟩
theorem wm_1_228 : Cond.methodLink "LinearRows" 71 y_S_becomeLike ∈ wG := List.mem_filter.mpr ⟨List.mem_append_right _ (List.mem_append_left _ (List.mem_of_getElem? (i := 228) rfl)), rfl⟩
theorem wm_1_229 : Cond.instanceMethod y_S_becomeLike ∈ wG := List.mem_filter.mpr ⟨List.mem_append_right _ (List.mem_append_left _ (List.mem_of_getElem? (i := 229) rfl)), rfl⟩
theorem wm_1_230 : Cond.selects "LinearRows$Shape" y_S_becomeLike y_S_becomeLike ∈ wG := List.mem_filter.mpr ⟨List.mem_append_right _ (List.mem_append_left _ (List.mem_of_getElem? (i := 230) rfl)), rfl⟩
theorem wm_1_231 : Cond.code y_S_becomeLike b_S_becomeLike 2 none ∈ wG := List.mem_filter.mpr ⟨List.mem_append_right _ (List.mem_append_left _ (List.mem_of_getElem? (i := 231) rfl)), rfl⟩
theorem wm_1_232 : Cond.methodLink "LinearRows$Shape" 41 y_T_takeFrom ∈ wG := List.mem_filter.mpr ⟨List.mem_append_right _ (List.mem_append_left _ (List.mem_of_getElem? (i := 232) rfl)), rfl⟩
theorem wm_1_233 : Cond.instanceMethod y_T_takeFrom ∈ wG := List.mem_filter.mpr ⟨List.mem_append_right _ (List.mem_append_left _ (List.mem_of_getElem? (i := 233) rfl)), rfl⟩
theorem wm_1_234 : Cond.selects "LinearRows$Table" y_T_takeFrom y_T_takeFrom ∈ wG := List.mem_filter.mpr ⟨List.mem_append_right _ (List.mem_append_left _ (List.mem_of_getElem? (i := 234) rfl)), rfl⟩
theorem wm_1_235 : Cond.code y_T_takeFrom b_T_takeFrom 2 none ∈ wG := List.mem_filter.mpr ⟨List.mem_append_right _ (List.mem_append_left _ (List.mem_of_getElem? (i := 235) rfl)), rfl⟩
theorem wm_1_236 : Cond.methodLink "LinearRows$Table" 51 y_JM_min ∈ wG := List.mem_filter.mpr ⟨List.mem_append_right _ (List.mem_append_left _ (List.mem_of_getElem? (i := 236) rfl)), rfl⟩
theorem wm_1_237 : Cond.methodLink "LinearRows$Table" 54 ⟨"java/lang/System", "arraycopy", "(Ljava/lang/Object;ILjava/lang/Object;II)V"⟩ ∈ wG := List.mem_filter.mpr ⟨List.mem_append_right _ (List.mem_append_left _ (List.mem_of_getElem? (i := 237) rfl)), rfl⟩
theorem wm_1_238 : Cond.static ⟨"java/lang/System", "arraycopy", "(Ljava/lang/Object;ILjava/lang/Object;II)V"⟩ ∈ wG := List.mem_filter.mpr ⟨List.mem_append_right _ (List.mem_append_left _ (List.mem_of_getElem? (i := 238) rfl)), rfl⟩
theorem wm_1_239 : Cond.native ⟨"java/lang/System", "arraycopy", "(Ljava/lang/Object;ILjava/lang/Object;II)V"⟩ ∈ wG := List.mem_filter.mpr ⟨List.mem_append_right _ (List.mem_append_left _ (List.mem_of_getElem? (i := 239) rfl)), rfl⟩
theorem wm_2_0 : Cond.methodLink "LinearRows" 75 y_S_addRow ∈ wG := List.mem_filter.mpr ⟨List.mem_append_right _ (List.mem_append_right _ (List.mem_append_left _ (List.mem_of_getElem? (i := 0) rfl))), rfl⟩
theorem wm_2_1 : Cond.instanceMethod y_S_addRow ∈ wG := List.mem_filter.mpr ⟨List.mem_append_right _ (List.mem_append_right _ (List.mem_append_left _ (List.mem_of_getElem? (i := 1) rfl))), rfl⟩
theorem wm_2_2 : Cond.selects "LinearRows$Shape" y_S_addRow y_S_addRow ∈ wG := List.mem_filter.mpr ⟨List.mem_append_right _ (List.mem_append_right _ (List.mem_append_left _ (List.mem_of_getElem? (i := 2) rfl))), rfl⟩
theorem wm_2_3 : Cond.code y_S_addRow b_S_addRow 6 none ∈ wG := List.mem_filter.mpr ⟨List.mem_append_right _ (List.mem_append_right _ (List.mem_append_left _ (List.mem_of_getElem? (i := 3) rfl))), rfl⟩
theorem wm_2_4 : Cond.methodLink "LinearRows$Shape" 51 y_S_becomeEmpty ∈ wG := List.mem_filter.mpr ⟨List.mem_append_right _ (List.mem_append_right _ (List.mem_append_left _ (List.mem_of_getElem? (i := 4) rfl))), rfl⟩
theorem wm_2_5 : Cond.instanceMethod y_S_becomeEmpty ∈ wG := List.mem_filter.mpr ⟨List.mem_append_right _ (List.mem_append_right _ (List.mem_append_left _ (List.mem_of_getElem? (i := 5) rfl))), rfl⟩
theorem wm_2_6 : Cond.selects "LinearRows$Shape" y_S_becomeEmpty y_S_becomeEmpty ∈ wG := List.mem_filter.mpr ⟨List.mem_append_right _ (List.mem_append_right _ (List.mem_append_left _ (List.mem_of_getElem? (i := 6) rfl))), rfl⟩
theorem wm_2_7 : Cond.code y_S_becomeEmpty b_S_becomeEmpty 1 none ∈ wG := List.mem_filter.mpr ⟨List.mem_append_right _ (List.mem_append_right _ (List.mem_append_left _ (List.mem_of_getElem? (i := 7) rfl))), rfl⟩
theorem wm_2_8 : Cond.methodLink "LinearRows$Shape" 38 y_S_becomeAll ∈ wG := List.mem_filter.mpr ⟨List.mem_append_right _ (List.mem_append_right _ (List.mem_append_left _ (List.mem_of_getElem? (i := 8) rfl))), rfl⟩
theorem wm_2_10 : Cond.static y_X_placeOf ∈ wG := List.mem_filter.mpr ⟨List.mem_append_right _ (List.mem_append_right _ (List.mem_append_left _ (List.mem_of_getElem? (i := 10) rfl))), rfl⟩
theorem wm_2_11 : Cond.code y_X_placeOf b_X_placeOf 1 (some .int) ∈ wG := List.mem_filter.mpr ⟨List.mem_append_right _ (List.mem_append_right _ (List.mem_append_left _ (List.mem_of_getElem? (i := 11) rfl))), rfl⟩
theorem wm_2_12 : Cond.constantLong "LinearRows$Shape" 58 2 ∈ wG := List.mem_filter.mpr ⟨List.mem_append_right _ (List.mem_append_right _ (List.mem_append_left _ (List.mem_of_getElem? (i := 12) rfl))), rfl⟩
theorem wm_2_13 : Cond.methodLink "LinearRows$Shape" 60 y_T_lowerTo ∈ wG := List.mem_filter.mpr ⟨List.mem_append_right _ (List.mem_append_right _ (List.mem_append_left _ (List.mem_of_getElem? (i := 13) rfl))), rfl⟩
theorem wm_2_14 : Cond.instanceMethod y_T_lowerTo ∈ wG := List.mem_filter.mpr ⟨List.mem_append_right _ (List.mem_append_right _ (List.mem_append_left _ (List.mem_of_getElem? (i := 14) rfl))), rfl⟩
theorem wm_2_15 : Cond.selects "LinearRows$Table" y_T_lowerTo y_T_lowerTo ∈ wG := List.mem_filter.mpr ⟨List.mem_append_right _ (List.mem_append_right _ (List.mem_append_left _ (List.mem_of_getElem? (i := 15) rfl))), rfl⟩
theorem wm_2_16 : Cond.code y_T_lowerTo b_T_lowerTo 5 none ∈ wG := List.mem_filter.mpr ⟨List.mem_append_right _ (List.mem_append_right _ (List.mem_append_left _ (List.mem_of_getElem? (i := 16) rfl))), rfl⟩
theorem wm_2_17 : Cond.methodLink "LinearRows$Table" 27 y_T_at ∈ wG := List.mem_filter.mpr ⟨List.mem_append_right _ (List.mem_append_right _ (List.mem_append_left _ (List.mem_of_getElem? (i := 17) rfl))), rfl⟩
theorem wm_2_18 : Cond.instanceMethod y_T_at ∈ wG := List.mem_filter.mpr ⟨List.mem_append_right _ (List.mem_append_right _ (List.mem_append_left _ (List.mem_of_getElem? (i := 18) rfl))), rfl⟩
theorem wm_2_19 : Cond.selects "LinearRows$Table" y_T_at y_T_at ∈ wG := List.mem_filter.mpr ⟨List.mem_append_right _ (List.mem_append_right _ (List.mem_append_left _ (List.mem_of_getElem? (i := 19) rfl))), rfl⟩
theorem wm_2_20 : Cond.code y_T_at b_T_at 3 (some .long) ∈ wG := List.mem_filter.mpr ⟨List.mem_append_right _ (List.mem_append_right _ (List.mem_append_left _ (List.mem_of_getElem? (i := 20) rfl))), rfl⟩
theorem wm_2_21 : Cond.methodLink "LinearRows$Table" 41 y_JM_min_JJJ ∈ wG := List.mem_filter.mpr ⟨List.mem_append_right _ (List.mem_append_right _ (List.mem_append_left _ (List.mem_of_getElem? (i := 21) rfl))), rfl⟩
theorem wm_2_22 : Cond.static y_JM_min_JJJ ∈ wG := List.mem_filter.mpr ⟨List.mem_append_right _ (List.mem_append_right _ (List.mem_append_left _ (List.mem_of_getElem? (i := 22) rfl))), rfl⟩
theorem wm_2_23 : Cond.code y_JM_min_JJJ b_JM_min_JJJ 4 (some .long) ∈ wG := List.mem_filter.mpr ⟨List.mem_append_right _ (List.mem_append_right _ (List.mem_append_left _ (List.mem_of_getElem? (i := 23) rfl))), rfl⟩
theorem wm_2_24 : Cond.methodLink "LinearRows$Table" 47 y_T_store ∈ wG := List.mem_filter.mpr ⟨List.mem_append_right _ (List.mem_append_right _ (List.mem_append_left _ (List.mem_of_getElem? (i := 24) rfl))), rfl⟩
theorem wm_2_25 : Cond.instanceMethod y_T_store ∈ wG := List.mem_filter.mpr ⟨List.mem_append_right _ (List.mem_append_right _ (List.mem_append_left _ (List.mem_of_getElem? (i := 25) rfl))), rfl⟩
theorem wm_2_26 : Cond.selects "LinearRows$Table" y_T_store y_T_store ∈ wG := List.mem_filter.mpr ⟨List.mem_append_right _ (List.mem_append_right _ (List.mem_append_left _ (List.mem_of_getElem? (i := 26) rfl))), rfl⟩
theorem wm_2_27 : Cond.code y_T_store b_T_store 5 none ∈ wG := List.mem_filter.mpr ⟨List.mem_append_right _ (List.mem_append_right _ (List.mem_append_left _ (List.mem_of_getElem? (i := 27) rfl))), rfl⟩
theorem wm_2_28 : Cond.methodLink "LinearRows$Shape" 64 y_JM_floorDiv ∈ wG := List.mem_filter.mpr ⟨List.mem_append_right _ (List.mem_append_right _ (List.mem_append_left _ (List.mem_of_getElem? (i := 28) rfl))), rfl⟩
theorem wm_2_29 : Cond.static y_JM_floorDiv ∈ wG := List.mem_filter.mpr ⟨List.mem_append_right _ (List.mem_append_right _ (List.mem_append_left _ (List.mem_of_getElem? (i := 29) rfl))), rfl⟩
theorem wm_2_30 : Cond.code y_JM_floorDiv b_JM_floorDiv 6 (some .long) ∈ wG := List.mem_filter.mpr ⟨List.mem_append_right _ (List.mem_append_right _ (List.mem_append_left _ (List.mem_of_getElem? (i := 30) rfl))), rfl⟩
theorem wm_2_31 : Cond.methodLink "LinearRows$Shape" 70 y_S_closeKeptRows ∈ wG := List.mem_filter.mpr ⟨List.mem_append_right _ (List.mem_append_right _ (List.mem_append_left _ (List.mem_of_getElem? (i := 31) rfl))), rfl⟩
theorem wm_2_33 : Cond.instanceMethod y_S_closeKeptRows ∈ wG := List.mem_filter.mpr ⟨List.mem_append_right _ (List.mem_append_right _ (List.mem_append_left _ (List.mem_of_getElem? (i := 33) rfl))), rfl⟩
theorem wm_2_34 : Cond.code y_S_closeKeptRows b_S_closeKeptRows 1 none ∈ wG := List.mem_filter.mpr ⟨List.mem_append_right _ (List.mem_append_right _ (List.mem_append_left _ (List.mem_of_getElem? (i := 34) rfl))), rfl⟩
theorem wm_2_35 : Cond.methodLink "LinearRows$Shape" 111 y_T_close ∈ wG := List.mem_filter.mpr ⟨List.mem_append_right _ (List.mem_append_right _ (List.mem_append_left _ (List.mem_of_getElem? (i := 35) rfl))), rfl⟩
theorem wm_2_36 : Cond.instanceMethod y_T_close ∈ wG := List.mem_filter.mpr ⟨List.mem_append_right _ (List.mem_append_right _ (List.mem_append_left _ (List.mem_of_getElem? (i := 36) rfl))), rfl⟩
theorem wm_2_37 : Cond.selects "LinearRows$Table" y_T_close y_T_close ∈ wG := List.mem_filter.mpr ⟨List.mem_append_right _ (List.mem_append_right _ (List.mem_append_left _ (List.mem_of_getElem? (i := 37) rfl))), rfl⟩
theorem wm_2_38 : Cond.code y_T_close b_T_close 2 (some .boolean) ∈ wG := List.mem_filter.mpr ⟨List.mem_append_right _ (List.mem_append_right _ (List.mem_append_left _ (List.mem_of_getElem? (i := 38) rfl))), rfl⟩
theorem wm_2_39 : Cond.methodLink "LinearRows$Table" 64 y_T_storeOpposites ∈ wG := List.mem_filter.mpr ⟨List.mem_append_right _ (List.mem_append_right _ (List.mem_append_left _ (List.mem_of_getElem? (i := 39) rfl))), rfl⟩
theorem wm_2_40 : Cond.methodLink "LinearRows$Table" 68 y_T_chainThrough ∈ wG := List.mem_filter.mpr ⟨List.mem_append_right _ (List.mem_append_right _ (List.mem_append_left _ (List.mem_of_getElem? (i := 40) rfl))), rfl⟩
theorem wm_2_42 : Cond.instanceMethod y_T_chainThrough ∈ wG := List.mem_filter.mpr ⟨List.mem_append_right _ (List.mem_append_right _ (List.mem_append_left _ (List.mem_of_getElem? (i := 42) rfl))), rfl⟩
theorem wm_2_43 : Cond.code y_T_chainThrough b_T_chainThrough 10 none ∈ wG := List.mem_filter.mpr ⟨List.mem_append_right _ (List.mem_append_right _ (List.mem_append_left _ (List.mem_of_getElem? (i := 43) rfl))), rfl⟩
theorem wm_2_44 : Cond.methodLink "LinearRows$Table" 72 y_T_hasOppositesBelowZero ∈ wG := List.mem_filter.mpr ⟨List.mem_append_right _ (List.mem_append_right _ (List.mem_append_left _ (List.mem_of_getElem? (i := 44) rfl))), rfl⟩
theorem wm_2_46 : Cond.instanceMethod y_T_hasOppositesBelowZero ∈ wG := List.mem_filter.mpr ⟨List.mem_append_right _ (List.mem_append_right _ (List.mem_append_left _ (List.mem_of_getElem? (i := 46) rfl))), rfl⟩
theorem wm_2_47 : Cond.code y_T_hasOppositesBelowZero b_T_hasOppositesBelowZero 2 (some .boolean) ∈ wG := List.mem_filter.mpr ⟨List.mem_append_right _ (List.mem_append_right _ (List.mem_append_left _ (List.mem_of_getElem? (i := 47) rfl))), rfl⟩
theorem wm_2_48 : Cond.methodLink "LinearRows$Table" 76 y_T_cutToEven ∈ wG := List.mem_filter.mpr ⟨List.mem_append_right _ (List.mem_append_right _ (List.mem_append_left _ (List.mem_of_getElem? (i := 48) rfl))), rfl⟩
theorem wm_2_50 : Cond.instanceMethod y_T_cutToEven ∈ wG := List.mem_filter.mpr ⟨List.mem_append_right _ (List.mem_append_right _ (List.mem_append_left _ (List.mem_of_getElem? (i := 50) rfl))), rfl⟩
theorem wm_2_51 : Cond.code y_T_cutToEven b_T_cutToEven 2 none ∈ wG := List.mem_filter.mpr ⟨List.mem_append_right _ (List.mem_append_right _ (List.mem_append_left _ (List.mem_of_getElem? (i := 51) rfl))), rfl⟩
theorem wm_2_52 : Cond.constantLong "LinearRows$Table" 31 2 ∈ wG := List.mem_filter.mpr ⟨List.mem_append_right _ (List.mem_append_right _ (List.mem_append_left _ (List.mem_of_getElem? (i := 52) rfl))), rfl⟩
theorem wm_2_53 : Cond.methodLink "LinearRows$Table" 85 y_JM_floorDiv ∈ wG := List.mem_filter.mpr ⟨List.mem_append_right _ (List.mem_append_right _ (List.mem_append_left _ (List.mem_of_getElem? (i := 53) rfl))), rfl⟩
theorem wm_2_54 : Cond.methodLink "LinearRows$Table" 79 y_T_hasTwicesThatContradict ∈ wG := List.mem_filter.mpr ⟨List.mem_append_right _ (List.mem_append_right _ (List.mem_append_left _ (List.mem_of_getElem? (i := 54) rfl))), rfl⟩
theorem wm_2_56 : Cond.instanceMethod y_T_hasTwicesThatContradict ∈ wG := List.mem_filter.mpr ⟨List.mem_append_right _ (List.mem_append_right _ (List.mem_append_left _ (List.mem_of_getElem? (i := 56) rfl))), rfl⟩
theorem wm_2_57 : Cond.code y_T_hasTwicesThatContradict b_T_hasTwicesThatContradict 2 (some .boolean) ∈ wG := List.mem_filter.mpr ⟨List.mem_append_right _ (List.mem_append_right _ (List.mem_append_left _ (List.mem_of_getElem? (i := 57) rfl))), rfl⟩
theorem wm_2_59 : Cond.static y_X_plus ∈ wG := List.mem_filter.mpr ⟨List.mem_append_right _ (List.mem_append_right _ (List.mem_append_left _ (List.mem_of_getElem? (i := 59) rfl))), rfl⟩
theorem wm_2_60 : Cond.code y_X_plus b_X_plus 4 (some .long) ∈ wG := List.mem_filter.mpr ⟨List.mem_append_right _ (List.mem_append_right _ (List.mem_append_left _ (List.mem_of_getElem? (i := 60) rfl))), rfl⟩
theorem wm_2_61 : Cond.constantLong "LinearRows" 87 4611686018427387904 ∈ wG := List.mem_filter.mpr ⟨List.mem_append_right _ (List.mem_append_right _ (List.mem_append_left _ (List.mem_of_getElem? (i := 61) rfl))), rfl⟩
theorem wm_2_62 : Cond.methodLink "LinearRows$Table" 82 y_T_addHalves ∈ wG := List.mem_filter.mpr ⟨List.mem_append_right _ (List.mem_append_right _ (List.mem_append_left _ (List.mem_of_getElem? (i := 62) rfl))), rfl⟩
theorem wm_2_64 : Cond.instanceMethod y_T_addHalves ∈ wG := List.mem_filter.mpr ⟨List.mem_append_right _ (List.mem_append_right _ (List.mem_append_left _ (List.mem_of_getElem? (i := 64) rfl))), rfl⟩
theorem wm_2_65 : Cond.code y_T_addHalves b_T_addHalves 3 none ∈ wG := List.mem_filter.mpr ⟨List.mem_append_right _ (List.mem_append_right _ (List.mem_append_left _ (List.mem_of_getElem? (i := 65) rfl))), rfl⟩
theorem wm_2_66 : Cond.methodLink "LinearRows$Table" 37 y_T_half ∈ wG := List.mem_filter.mpr ⟨List.mem_append_right _ (List.mem_append_right _ (List.mem_append_left _ (List.mem_of_getElem? (i := 66) rfl))), rfl⟩
theorem wm_2_67 : Cond.instanceMethod y_T_half ∈ wG := List.mem_filter.mpr ⟨List.mem_append_right _ (List.mem_append_right _ (List.mem_append_left _ (List.mem_of_getElem? (i := 67) rfl))), rfl⟩
theorem wm_2_68 : Cond.selects "LinearRows$Table" y_T_half y_T_half ∈ wG := List.mem_filter.mpr ⟨List.mem_append_right _ (List.mem_append_right _ (List.mem_append_left _ (List.mem_of_getElem? (i := 68) rfl))), rfl⟩
theorem wm_2_69 : Cond.code y_T_half b_T_half 2 (some .long) ∈ wG := List.mem_filter.mpr ⟨List.mem_append_right _ (List.mem_append_right _ (List.mem_append_left _ (List.mem_of_getElem? (i := 69) rfl))), rfl⟩
theorem wm_2_70 : Cond.methodLink "LinearRows$Table" 91 y_T_lowerTo ∈ wG := List.mem_filter.mpr ⟨List.mem_append_right _ (List.mem_append_right _ (List.mem_append_left _ (List.mem_of_getElem? (i := 70) rfl))), rfl⟩
theorem wm_2_71 : Cond.methodLink "LinearRows" 79 y_X_takeMade ∈ wG := List.mem_filter.mpr ⟨List.mem_append_right _ (List.mem_append_right _ (List.mem_append_left _ (List.mem_of_getElem? (i := 71) rfl))), rfl⟩
theorem wm_2_73 : Cond.instanceMethod y_X_takeMade ∈ wG := List.mem_filter.mpr ⟨List.mem_append_right _ (List.mem_append_right _ (List.mem_append_left _ (List.mem_of_getElem? (i := 73) rfl))), rfl⟩
theorem wm_2_74 : Cond.code y_X_takeMade b_X_takeMade 2 (some .int) ∈ wG := List.mem_filter.mpr ⟨List.mem_append_right _ (List.mem_append_right _ (List.mem_append_left _ (List.mem_of_getElem? (i := 74) rfl))), rfl⟩
theorem wm_2_75 : Cond.methodLink "LinearRows" 208 y_T_isTooFar ∈ wG := List.mem_filter.mpr ⟨List.mem_append_right _ (List.mem_append_right _ (List.mem_append_left _ (List.mem_of_getElem? (i := 75) rfl))), rfl⟩
theorem wm_2_76 : Cond.instanceMethod y_T_isTooFar ∈ wG := List.mem_filter.mpr ⟨List.mem_append_right _ (List.mem_append_right _ (List.mem_append_left _ (List.mem_of_getElem? (i := 76) rfl))), rfl⟩
theorem wm_2_77 : Cond.selects "LinearRows$Table" y_T_isTooFar y_T_isTooFar ∈ wG := List.mem_filter.mpr ⟨List.mem_append_right _ (List.mem_append_right _ (List.mem_append_left _ (List.mem_of_getElem? (i := 77) rfl))), rfl⟩
theorem wm_2_78 : Cond.code y_T_isTooFar b_T_isTooFar 5 (some .boolean) ∈ wG := List.mem_filter.mpr ⟨List.mem_append_right _ (List.mem_append_right _ (List.mem_append_left _ (List.mem_of_getElem? (i := 78) rfl))), rfl⟩
theorem wm_2_79 : Cond.constantLong "LinearRows$Table" 60 1000000000000000 ∈ wG := List.mem_filter.mpr ⟨List.mem_append_right _ (List.mem_append_right _ (List.mem_append_left _ (List.mem_of_getElem? (i := 79) rfl))), rfl⟩
theorem wm_2_80 : Cond.constantLong "LinearRows$Table" 62 (-1000000000000000) ∈ wG := List.mem_filter.mpr ⟨List.mem_append_right _ (List.mem_append_right _ (List.mem_append_left _ (List.mem_of_getElem? (i := 80) rfl))), rfl⟩
theorem wm_2_81 : Cond.classLink "LinearRows" 211 "java/lang/ArithmeticException" ∈ wG := List.mem_filter.mpr ⟨List.mem_append_right _ (List.mem_append_right _ (List.mem_append_left _ (List.mem_of_getElem? (i := 81) rfl))), rfl⟩
theorem wm_2_82 : Cond.instantiable "java/lang/ArithmeticException" 6 ∈ wG := List.mem_filter.mpr ⟨List.mem_append_right _ (List.mem_append_right _ (List.mem_append_left _ (List.mem_of_getElem? (i := 82) rfl))), rfl⟩
theorem wm_2_84 : Cond.selects "java/lang/ArithmeticException" ⟨"java/lang/Throwable", "fillInStackTrace", "(I)Ljava/lang/Throwable;"⟩ ⟨"java/lang/Throwable", "fillInStackTrace", "(I)Ljava/lang/Throwable;"⟩ ∈ wG := List.mem_filter.mpr ⟨List.mem_append_right _ (List.mem_append_right _ (List.mem_append_left _ (List.mem_of_getElem? (i := 84) rfl))), rfl⟩
theorem wm_2_85 : Cond.lays "java/lang/ArithmeticException" "java/lang/Throwable" "cause" "Ljava/lang/Throwable;" ∈ wG := List.mem_filter.mpr ⟨List.mem_append_right _ (List.mem_append_right _ (List.mem_append_left _ (List.mem_of_getElem? (i := 85) rfl))), rfl⟩
theorem wm_2_86 : Cond.lays "java/lang/ArithmeticException" "java/lang/Throwable" "stackTrace" "[Ljava/lang/StackTraceElement;" ∈ wG := List.mem_filter.mpr ⟨List.mem_append_right _ (List.mem_append_right _ (List.mem_append_left _ (List.mem_of_getElem? (i := 86) rfl))), rfl⟩
theorem wm_2_87 : Cond.lays "java/lang/ArithmeticException" "java/lang/Throwable" "suppressedExceptions" "Ljava/util/List;" ∈ wG := List.mem_filter.mpr ⟨List.mem_append_right _ (List.mem_append_right _ (List.mem_append_left _ (List.mem_of_getElem? (i := 87) rfl))), rfl⟩
theorem wm_2_88 : Cond.lays "java/lang/ArithmeticException" "java/lang/Throwable" "detailMessage" "Ljava/lang/String;" ∈ wG := List.mem_filter.mpr ⟨List.mem_append_right _ (List.mem_append_right _ (List.mem_append_left _ (List.mem_of_getElem? (i := 88) rfl))), rfl⟩
theorem wm_2_89 : Cond.lays "java/lang/ArithmeticException" "java/lang/Throwable" "backtrace" "Ljava/lang/Object;" ∈ wG := List.mem_filter.mpr ⟨List.mem_append_right _ (List.mem_append_right _ (List.mem_append_left _ (List.mem_of_getElem? (i := 89) rfl))), rfl⟩
theorem wm_2_91 : Cond.methodLink "LinearRows" 215 ⟨"java/lang/ArithmeticException", "<init>", "(Ljava/lang/String;)V"⟩ ∈ wG := List.mem_filter.mpr ⟨List.mem_append_right _ (List.mem_append_right _ (List.mem_append_left _ (List.mem_of_getElem? (i := 91) rfl))), rfl⟩
theorem wm_2_92 : Cond.instanceMethod ⟨"java/lang/ArithmeticException", "<init>", "(Ljava/lang/String;)V"⟩ ∈ wG := List.mem_filter.mpr ⟨List.mem_append_right _ (List.mem_append_right _ (List.mem_append_left _ (List.mem_of_getElem? (i := 92) rfl))), rfl⟩
theorem wm_2_94 : Cond.methodLink "java/lang/ArithmeticException" 7 ⟨"java/lang/RuntimeException", "<init>", "(Ljava/lang/String;)V"⟩ ∈ wG := List.mem_filter.mpr ⟨List.mem_append_right _ (List.mem_append_right _ (List.mem_append_left _ (List.mem_of_getElem? (i := 94) rfl))), rfl⟩
theorem wm_2_95 : Cond.lays "java/lang/ArithmeticException" "java/lang/Throwable" "depth" "I" ∈ wG := List.mem_filter.mpr ⟨List.mem_append_right _ (List.mem_append_right _ (List.mem_append_left _ (List.mem_of_getElem? (i := 95) rfl))), rfl⟩
theorem wm_2_96 : Cond.superclass "java/lang/ArithmeticException" "java/lang/RuntimeException" ∈ wG := List.mem_filter.mpr ⟨List.mem_append_right _ (List.mem_append_right _ (List.mem_append_left _ (List.mem_of_getElem? (i := 96) rfl))), rfl⟩
theorem wm_2_97 : Cond.methodLink "LinearRowsLaw" 116 y_L_bound ∈ wG := List.mem_filter.mpr ⟨List.mem_append_right _ (List.mem_append_right _ (List.mem_append_left _ (List.mem_of_getElem? (i := 97) rfl))), rfl⟩
theorem wm_2_98 : Cond.static y_L_bound ∈ wG := List.mem_filter.mpr ⟨List.mem_append_right _ (List.mem_append_right _ (List.mem_append_left _ (List.mem_of_getElem? (i := 98) rfl))), rfl⟩
theorem wm_2_99 : Cond.codeWith y_L_bound b_L_bound 6 (some .int) h_L_bound ∈ wG := List.mem_filter.mpr ⟨List.mem_append_right _ (List.mem_append_right _ (List.mem_append_left _ (List.mem_of_getElem? (i := 99) rfl))), rfl⟩
theorem wm_2_100 : Cond.methodLink "LinearRowsLaw" 23 y_X_bound ∈ wG := List.mem_filter.mpr ⟨List.mem_append_right _ (List.mem_append_right _ (List.mem_append_left _ (List.mem_of_getElem? (i := 100) rfl))), rfl⟩
theorem wm_2_101 : Cond.instanceMethod y_X_bound ∈ wG := List.mem_filter.mpr ⟨List.mem_append_right _ (List.mem_append_right _ (List.mem_append_left _ (List.mem_of_getElem? (i := 101) rfl))), rfl⟩
theorem wm_2_102 : Cond.selects "LinearRows" y_X_bound y_X_bound ∈ wG := List.mem_filter.mpr ⟨List.mem_append_right _ (List.mem_append_right _ (List.mem_append_left _ (List.mem_of_getElem? (i := 102) rfl))), rfl⟩
theorem wm_2_103 : Cond.code y_X_bound b_X_bound 4 (some .long) ∈ wG := List.mem_filter.mpr ⟨List.mem_append_right _ (List.mem_append_right _ (List.mem_append_left _ (List.mem_of_getElem? (i := 103) rfl))), rfl⟩
theorem wm_2_104 : Cond.methodLink "LinearRows" 83 y_S_greatest ∈ wG := List.mem_filter.mpr ⟨List.mem_append_right _ (List.mem_append_right _ (List.mem_append_left _ (List.mem_of_getElem? (i := 104) rfl))), rfl⟩
theorem wm_2_105 : Cond.instanceMethod y_S_greatest ∈ wG := List.mem_filter.mpr ⟨List.mem_append_right _ (List.mem_append_right _ (List.mem_append_left _ (List.mem_of_getElem? (i := 105) rfl))), rfl⟩
theorem wm_2_106 : Cond.selects "LinearRows$Shape" y_S_greatest y_S_greatest ∈ wG := List.mem_filter.mpr ⟨List.mem_append_right _ (List.mem_append_right _ (List.mem_append_left _ (List.mem_of_getElem? (i := 106) rfl))), rfl⟩
theorem wm_2_107 : Cond.code y_S_greatest b_S_greatest 3 (some .long) ∈ wG := List.mem_filter.mpr ⟨List.mem_append_right _ (List.mem_append_right _ (List.mem_append_left _ (List.mem_of_getElem? (i := 107) rfl))), rfl⟩
theorem wm_2_108 : Cond.constantLong "LinearRows$Shape" 45 (-4611686018427387904) ∈ wG := List.mem_filter.mpr ⟨List.mem_append_right _ (List.mem_append_right _ (List.mem_append_left _ (List.mem_of_getElem? (i := 108) rfl))), rfl⟩
theorem wm_2_109 : Cond.methodLink "LinearRows$Shape" 47 y_T_ofTerms ∈ wG := List.mem_filter.mpr ⟨List.mem_append_right _ (List.mem_append_right _ (List.mem_append_left _ (List.mem_of_getElem? (i := 109) rfl))), rfl⟩
theorem wm_2_110 : Cond.instanceMethod y_T_ofTerms ∈ wG := List.mem_filter.mpr ⟨List.mem_append_right _ (List.mem_append_right _ (List.mem_append_left _ (List.mem_of_getElem? (i := 110) rfl))), rfl⟩
theorem wm_2_111 : Cond.selects "LinearRows$Table" y_T_ofTerms y_T_ofTerms ∈ wG := List.mem_filter.mpr ⟨List.mem_append_right _ (List.mem_append_right _ (List.mem_append_left _ (List.mem_of_getElem? (i := 111) rfl))), rfl⟩
theorem wm_2_112 : Cond.code y_T_ofTerms b_T_ofTerms 3 (some .long) ∈ wG := List.mem_filter.mpr ⟨List.mem_append_right _ (List.mem_append_right _ (List.mem_append_left _ (List.mem_of_getElem? (i := 112) rfl))), rfl⟩
theorem wm_2_114 : Cond.methodLink "LinearRowsLaw" 120 y_L_kept ∈ wG := List.mem_filter.mpr ⟨List.mem_append_right _ (List.mem_append_right _ (List.mem_append_left _ (List.mem_of_getElem? (i := 114) rfl))), rfl⟩
theorem wm_2_115 : Cond.static y_L_kept ∈ wG := List.mem_filter.mpr ⟨List.mem_append_right _ (List.mem_append_right _ (List.mem_append_left _ (List.mem_of_getElem? (i := 115) rfl))), rfl⟩
theorem wm_2_116 : Cond.codeWith y_L_kept b_L_kept 6 (some .int) h_L_kept ∈ wG := List.mem_filter.mpr ⟨List.mem_append_right _ (List.mem_append_right _ (List.mem_append_left _ (List.mem_of_getElem? (i := 116) rfl))), rfl⟩
theorem wm_2_117 : Cond.methodLink "LinearRowsLaw" 27 y_X_kept ∈ wG := List.mem_filter.mpr ⟨List.mem_append_right _ (List.mem_append_right _ (List.mem_append_left _ (List.mem_of_getElem? (i := 117) rfl))), rfl⟩
theorem wm_2_118 : Cond.instanceMethod y_X_kept ∈ wG := List.mem_filter.mpr ⟨List.mem_append_right _ (List.mem_append_right _ (List.mem_append_left _ (List.mem_of_getElem? (i := 118) rfl))), rfl⟩
theorem wm_2_119 : Cond.selects "LinearRows" y_X_kept y_X_kept ∈ wG := List.mem_filter.mpr ⟨List.mem_append_right _ (List.mem_append_right _ (List.mem_append_left _ (List.mem_of_getElem? (i := 119) rfl))), rfl⟩
theorem wm_2_120 : Cond.code y_X_kept b_X_kept 4 (some .long) ∈ wG := List.mem_filter.mpr ⟨List.mem_append_right _ (List.mem_append_right _ (List.mem_append_left _ (List.mem_of_getElem? (i := 120) rfl))), rfl⟩
theorem wm_2_121 : Cond.methodLink "LinearRows" 92 y_T_ofTerms ∈ wG := List.mem_filter.mpr ⟨List.mem_append_right _ (List.mem_append_right _ (List.mem_append_left _ (List.mem_of_getElem? (i := 121) rfl))), rfl⟩
theorem wm_2_122 : Cond.methodLink "LinearRowsLaw" 123 y_L_meet ∈ wG := List.mem_filter.mpr ⟨List.mem_append_right _ (List.mem_append_right _ (List.mem_append_left _ (List.mem_of_getElem? (i := 122) rfl))), rfl⟩
theorem wm_2_123 : Cond.static y_L_meet ∈ wG := List.mem_filter.mpr ⟨List.mem_append_right _ (List.mem_append_right _ (List.mem_append_left _ (List.mem_of_getElem? (i := 123) rfl))), rfl⟩
theorem wm_2_124 : Cond.codeWith y_L_meet b_L_meet 6 (some .int) h_L_meet ∈ wG := List.mem_filter.mpr ⟨List.mem_append_right _ (List.mem_append_right _ (List.mem_append_left _ (List.mem_of_getElem? (i := 124) rfl))), rfl⟩
theorem wm_2_125 : Cond.methodLink "LinearRowsLaw" 30 y_X_meet ∈ wG := List.mem_filter.mpr ⟨List.mem_append_right _ (List.mem_append_right _ (List.mem_append_left _ (List.mem_of_getElem? (i := 125) rfl))), rfl⟩
theorem wm_2_126 : Cond.instanceMethod y_X_meet ∈ wG := List.mem_filter.mpr ⟨List.mem_append_right _ (List.mem_append_right _ (List.mem_append_left _ (List.mem_of_getElem? (i := 126) rfl))), rfl⟩
theorem wm_2_127 : Cond.selects "LinearRows" y_X_meet y_X_meet ∈ wG := List.mem_filter.mpr ⟨List.mem_append_right _ (List.mem_append_right _ (List.mem_append_left _ (List.mem_of_getElem? (i := 127) rfl))), rfl⟩
theorem wm_2_128 : Cond.code y_X_meet b_X_meet 4 (some .int) ∈ wG := List.mem_filter.mpr ⟨List.mem_append_right _ (List.mem_append_right _ (List.mem_append_left _ (List.mem_of_getElem? (i := 128) rfl))), rfl⟩
theorem wm_2_129 : Cond.methodLink "LinearRows" 95 y_X_checkShapes ∈ wG := List.mem_filter.mpr ⟨List.mem_append_right _ (List.mem_append_right _ (List.mem_append_left _ (List.mem_of_getElem? (i := 129) rfl))), rfl⟩
theorem wm_2_130 : Cond.static y_X_checkShapes ∈ wG := List.mem_filter.mpr ⟨List.mem_append_right _ (List.mem_append_right _ (List.mem_append_left _ (List.mem_of_getElem? (i := 130) rfl))), rfl⟩
theorem wm_2_131 : Cond.code y_X_checkShapes b_X_checkShapes 3 none ∈ wG := List.mem_filter.mpr ⟨List.mem_append_right _ (List.mem_append_right _ (List.mem_append_left _ (List.mem_of_getElem? (i := 131) rfl))), rfl⟩
theorem wm_2_132 : Cond.methodLink "LinearRows" 99 y_S_becomeMeeting ∈ wG := List.mem_filter.mpr ⟨List.mem_append_right _ (List.mem_append_right _ (List.mem_append_left _ (List.mem_of_getElem? (i := 132) rfl))), rfl⟩
theorem wm_2_133 : Cond.instanceMethod y_S_becomeMeeting ∈ wG := List.mem_filter.mpr ⟨List.mem_append_right _ (List.mem_append_right _ (List.mem_append_left _ (List.mem_of_getElem? (i := 133) rfl))), rfl⟩
theorem wm_2_134 : Cond.selects "LinearRows$Shape" y_S_becomeMeeting y_S_becomeMeeting ∈ wG := List.mem_filter.mpr ⟨List.mem_append_right _ (List.mem_append_right _ (List.mem_append_left _ (List.mem_of_getElem? (i := 134) rfl))), rfl⟩
theorem wm_2_135 : Cond.code y_S_becomeMeeting b_S_becomeMeeting 5 none ∈ wG := List.mem_filter.mpr ⟨List.mem_append_right _ (List.mem_append_right _ (List.mem_append_left _ (List.mem_of_getElem? (i := 135) rfl))), rfl⟩
theorem wm_2_136 : Cond.methodLink "LinearRows$Shape" 73 y_T_at ∈ wG := List.mem_filter.mpr ⟨List.mem_append_right _ (List.mem_append_right _ (List.mem_append_left _ (List.mem_of_getElem? (i := 136) rfl))), rfl⟩
theorem wm_2_137 : Cond.methodLink "LinearRows$Shape" 76 y_JM_min_JJJ ∈ wG := List.mem_filter.mpr ⟨List.mem_append_right _ (List.mem_append_right _ (List.mem_append_left _ (List.mem_of_getElem? (i := 137) rfl))), rfl⟩
theorem wm_2_138 : Cond.methodLink "LinearRows$Shape" 79 y_T_store ∈ wG := List.mem_filter.mpr ⟨List.mem_append_right _ (List.mem_append_right _ (List.mem_append_left _ (List.mem_of_getElem? (i := 138) rfl))), rfl⟩
theorem wm_2_139 : Cond.methodLink "LinearRows$Shape" 82 y_S_keepBounds ∈ wG := List.mem_filter.mpr ⟨List.mem_append_right _ (List.mem_append_right _ (List.mem_append_left _ (List.mem_of_getElem? (i := 139) rfl))), rfl⟩
theorem wm_2_141 : Cond.instanceMethod y_S_keepBounds ∈ wG := List.mem_filter.mpr ⟨List.mem_append_right _ (List.mem_append_right _ (List.mem_append_left _ (List.mem_of_getElem? (i := 141) rfl))), rfl⟩
theorem wm_2_142 : Cond.code y_S_keepBounds b_S_keepBounds 1 none ∈ wG := List.mem_filter.mpr ⟨List.mem_append_right _ (List.mem_append_right _ (List.mem_append_left _ (List.mem_of_getElem? (i := 142) rfl))), rfl⟩
theorem wm_2_143 : Cond.constantLong "LinearRows$Shape" 92 4611686018427387904 ∈ wG := List.mem_filter.mpr ⟨List.mem_append_right _ (List.mem_append_right _ (List.mem_append_left _ (List.mem_of_getElem? (i := 143) rfl))), rfl⟩
theorem wm_2_144 : Cond.methodLink "LinearRowsLaw" 126 y_L_join ∈ wG := List.mem_filter.mpr ⟨List.mem_append_right _ (List.mem_append_right _ (List.mem_append_left _ (List.mem_of_getElem? (i := 144) rfl))), rfl⟩
theorem wm_2_145 : Cond.static y_L_join ∈ wG := List.mem_filter.mpr ⟨List.mem_append_right _ (List.mem_append_right _ (List.mem_append_left _ (List.mem_of_getElem? (i := 145) rfl))), rfl⟩
theorem wm_2_146 : Cond.codeWith y_L_join b_L_join 6 (some .int) h_L_join ∈ wG := List.mem_filter.mpr ⟨List.mem_append_right _ (List.mem_append_right _ (List.mem_append_left _ (List.mem_of_getElem? (i := 146) rfl))), rfl⟩
theorem wm_2_147 : Cond.methodLink "LinearRowsLaw" 34 y_X_join ∈ wG := List.mem_filter.mpr ⟨List.mem_append_right _ (List.mem_append_right _ (List.mem_append_left _ (List.mem_of_getElem? (i := 147) rfl))), rfl⟩
theorem wm_2_148 : Cond.instanceMethod y_X_join ∈ wG := List.mem_filter.mpr ⟨List.mem_append_right _ (List.mem_append_right _ (List.mem_append_left _ (List.mem_of_getElem? (i := 148) rfl))), rfl⟩
theorem wm_2_149 : Cond.selects "LinearRows" y_X_join y_X_join ∈ wG := List.mem_filter.mpr ⟨List.mem_append_right _ (List.mem_append_right _ (List.mem_append_left _ (List.mem_of_getElem? (i := 149) rfl))), rfl⟩
theorem wm_2_150 : Cond.code y_X_join b_X_join 4 (some .int) ∈ wG := List.mem_filter.mpr ⟨List.mem_append_right _ (List.mem_append_right _ (List.mem_append_left _ (List.mem_of_getElem? (i := 150) rfl))), rfl⟩
theorem wm_2_151 : Cond.methodLink "LinearRows" 103 y_S_becomeJoin ∈ wG := List.mem_filter.mpr ⟨List.mem_append_right _ (List.mem_append_right _ (List.mem_append_left _ (List.mem_of_getElem? (i := 151) rfl))), rfl⟩
theorem wm_2_152 : Cond.instanceMethod y_S_becomeJoin ∈ wG := List.mem_filter.mpr ⟨List.mem_append_right _ (List.mem_append_right _ (List.mem_append_left _ (List.mem_of_getElem? (i := 152) rfl))), rfl⟩
theorem wm_2_153 : Cond.selects "LinearRows$Shape" y_S_becomeJoin y_S_becomeJoin ∈ wG := List.mem_filter.mpr ⟨List.mem_append_right _ (List.mem_append_right _ (List.mem_append_left _ (List.mem_of_getElem? (i := 153) rfl))), rfl⟩
theorem wm_2_154 : Cond.code y_S_becomeJoin b_S_becomeJoin 5 none ∈ wG := List.mem_filter.mpr ⟨List.mem_append_right _ (List.mem_append_right _ (List.mem_append_left _ (List.mem_of_getElem? (i := 154) rfl))), rfl⟩
theorem wm_2_155 : Cond.methodLink "LinearRows$Shape" 85 y_S_becomeLike ∈ wG := List.mem_filter.mpr ⟨List.mem_append_right _ (List.mem_append_right _ (List.mem_append_left _ (List.mem_of_getElem? (i := 155) rfl))), rfl⟩
theorem wm_2_156 : Cond.methodLink "LinearRows$Shape" 89 y_JM_max_JJJ ∈ wG := List.mem_filter.mpr ⟨List.mem_append_right _ (List.mem_append_right _ (List.mem_append_left _ (List.mem_of_getElem? (i := 156) rfl))), rfl⟩
theorem wm_2_157 : Cond.static y_JM_max_JJJ ∈ wG := List.mem_filter.mpr ⟨List.mem_append_right _ (List.mem_append_right _ (List.mem_append_left _ (List.mem_of_getElem? (i := 157) rfl))), rfl⟩
theorem wm_2_158 : Cond.code y_JM_max_JJJ b_JM_max_JJJ 4 (some .long) ∈ wG := List.mem_filter.mpr ⟨List.mem_append_right _ (List.mem_append_right _ (List.mem_append_left _ (List.mem_of_getElem? (i := 158) rfl))), rfl⟩
theorem wm_2_159 : Cond.methodLink "LinearRowsLaw" 129 y_L_widen ∈ wG := List.mem_filter.mpr ⟨List.mem_append_right _ (List.mem_append_right _ (List.mem_append_left _ (List.mem_of_getElem? (i := 159) rfl))), rfl⟩
theorem wm_2_160 : Cond.static y_L_widen ∈ wG := List.mem_filter.mpr ⟨List.mem_append_right _ (List.mem_append_right _ (List.mem_append_left _ (List.mem_of_getElem? (i := 160) rfl))), rfl⟩
theorem wm_2_161 : Cond.codeWith y_L_widen b_L_widen 6 (some .int) h_L_widen ∈ wG := List.mem_filter.mpr ⟨List.mem_append_right _ (List.mem_append_right _ (List.mem_append_left _ (List.mem_of_getElem? (i := 161) rfl))), rfl⟩
theorem wm_2_162 : Cond.methodLink "LinearRowsLaw" 37 y_X_widen ∈ wG := List.mem_filter.mpr ⟨List.mem_append_right _ (List.mem_append_right _ (List.mem_append_left _ (List.mem_of_getElem? (i := 162) rfl))), rfl⟩
theorem wm_2_163 : Cond.instanceMethod y_X_widen ∈ wG := List.mem_filter.mpr ⟨List.mem_append_right _ (List.mem_append_right _ (List.mem_append_left _ (List.mem_of_getElem? (i := 163) rfl))), rfl⟩
theorem wm_2_164 : Cond.selects "LinearRows" y_X_widen y_X_widen ∈ wG := List.mem_filter.mpr ⟨List.mem_append_right _ (List.mem_append_right _ (List.mem_append_left _ (List.mem_of_getElem? (i := 164) rfl))), rfl⟩
theorem wm_2_165 : Cond.code y_X_widen b_X_widen 4 (some .int) ∈ wG := List.mem_filter.mpr ⟨List.mem_append_right _ (List.mem_append_right _ (List.mem_append_left _ (List.mem_of_getElem? (i := 165) rfl))), rfl⟩
theorem wm_2_166 : Cond.methodLink "LinearRows" 106 y_S_becomeWidened ∈ wG := List.mem_filter.mpr ⟨List.mem_append_right _ (List.mem_append_right _ (List.mem_append_left _ (List.mem_of_getElem? (i := 166) rfl))), rfl⟩
theorem wm_2_167 : Cond.instanceMethod y_S_becomeWidened ∈ wG := List.mem_filter.mpr ⟨List.mem_append_right _ (List.mem_append_right _ (List.mem_append_left _ (List.mem_of_getElem? (i := 167) rfl))), rfl⟩
theorem wm_2_168 : Cond.selects "LinearRows$Shape" y_S_becomeWidened y_S_becomeWidened ∈ wG := List.mem_filter.mpr ⟨List.mem_append_right _ (List.mem_append_right _ (List.mem_append_left _ (List.mem_of_getElem? (i := 168) rfl))), rfl⟩
theorem wm_2_169 : Cond.code y_S_becomeWidened b_S_becomeWidened 7 none ∈ wG := List.mem_filter.mpr ⟨List.mem_append_right _ (List.mem_append_right _ (List.mem_append_left _ (List.mem_of_getElem? (i := 169) rfl))), rfl⟩
theorem wm_2_170 : Cond.methodLink "LinearRowsLaw" 132 y_L_narrow ∈ wG := List.mem_filter.mpr ⟨List.mem_append_right _ (List.mem_append_right _ (List.mem_append_left _ (List.mem_of_getElem? (i := 170) rfl))), rfl⟩
theorem wm_2_171 : Cond.static y_L_narrow ∈ wG := List.mem_filter.mpr ⟨List.mem_append_right _ (List.mem_append_right _ (List.mem_append_left _ (List.mem_of_getElem? (i := 171) rfl))), rfl⟩
theorem wm_2_172 : Cond.codeWith y_L_narrow b_L_narrow 6 (some .int) h_L_narrow ∈ wG := List.mem_filter.mpr ⟨List.mem_append_right _ (List.mem_append_right _ (List.mem_append_left _ (List.mem_of_getElem? (i := 172) rfl))), rfl⟩
theorem wm_2_173 : Cond.methodLink "LinearRowsLaw" 40 y_X_narrow ∈ wG := List.mem_filter.mpr ⟨List.mem_append_right _ (List.mem_append_right _ (List.mem_append_left _ (List.mem_of_getElem? (i := 173) rfl))), rfl⟩
theorem wm_2_174 : Cond.instanceMethod y_X_narrow ∈ wG := List.mem_filter.mpr ⟨List.mem_append_right _ (List.mem_append_right _ (List.mem_append_left _ (List.mem_of_getElem? (i := 174) rfl))), rfl⟩
theorem wm_2_175 : Cond.selects "LinearRows" y_X_narrow y_X_narrow ∈ wG := List.mem_filter.mpr ⟨List.mem_append_right _ (List.mem_append_right _ (List.mem_append_left _ (List.mem_of_getElem? (i := 175) rfl))), rfl⟩
theorem wm_2_176 : Cond.code y_X_narrow b_X_narrow 4 (some .int) ∈ wG := List.mem_filter.mpr ⟨List.mem_append_right _ (List.mem_append_right _ (List.mem_append_left _ (List.mem_of_getElem? (i := 176) rfl))), rfl⟩
theorem wm_2_177 : Cond.methodLink "LinearRows" 109 y_S_becomeNarrowed ∈ wG := List.mem_filter.mpr ⟨List.mem_append_right _ (List.mem_append_right _ (List.mem_append_left _ (List.mem_of_getElem? (i := 177) rfl))), rfl⟩
theorem wm_2_178 : Cond.instanceMethod y_S_becomeNarrowed ∈ wG := List.mem_filter.mpr ⟨List.mem_append_right _ (List.mem_append_right _ (List.mem_append_left _ (List.mem_of_getElem? (i := 178) rfl))), rfl⟩
theorem wm_2_179 : Cond.selects "LinearRows$Shape" y_S_becomeNarrowed y_S_becomeNarrowed ∈ wG := List.mem_filter.mpr ⟨List.mem_append_right _ (List.mem_append_right _ (List.mem_append_left _ (List.mem_of_getElem? (i := 179) rfl))), rfl⟩
theorem wm_2_180 : Cond.code y_S_becomeNarrowed b_S_becomeNarrowed 6 none ∈ wG := List.mem_filter.mpr ⟨List.mem_append_right _ (List.mem_append_right _ (List.mem_append_left _ (List.mem_of_getElem? (i := 180) rfl))), rfl⟩
theorem wm_2_181 : Cond.methodLink "LinearRowsLaw" 135 y_L_copy ∈ wG := List.mem_filter.mpr ⟨List.mem_append_right _ (List.mem_append_right _ (List.mem_append_left _ (List.mem_of_getElem? (i := 181) rfl))), rfl⟩
theorem wm_2_182 : Cond.static y_L_copy ∈ wG := List.mem_filter.mpr ⟨List.mem_append_right _ (List.mem_append_right _ (List.mem_append_left _ (List.mem_of_getElem? (i := 182) rfl))), rfl⟩
theorem wm_2_183 : Cond.codeWith y_L_copy b_L_copy 4 (some .int) h_L_copy ∈ wG := List.mem_filter.mpr ⟨List.mem_append_right _ (List.mem_append_right _ (List.mem_append_left _ (List.mem_of_getElem? (i := 183) rfl))), rfl⟩
theorem wm_2_184 : Cond.methodLink "LinearRowsLaw" 43 y_X_copy ∈ wG := List.mem_filter.mpr ⟨List.mem_append_right _ (List.mem_append_right _ (List.mem_append_left _ (List.mem_of_getElem? (i := 184) rfl))), rfl⟩
theorem wm_2_185 : Cond.instanceMethod y_X_copy ∈ wG := List.mem_filter.mpr ⟨List.mem_append_right _ (List.mem_append_right _ (List.mem_append_left _ (List.mem_of_getElem? (i := 185) rfl))), rfl⟩
theorem wm_2_186 : Cond.selects "LinearRows" y_X_copy y_X_copy ∈ wG := List.mem_filter.mpr ⟨List.mem_append_right _ (List.mem_append_right _ (List.mem_append_left _ (List.mem_of_getElem? (i := 186) rfl))), rfl⟩
theorem wm_2_187 : Cond.code y_X_copy b_X_copy 3 none ∈ wG := List.mem_filter.mpr ⟨List.mem_append_right _ (List.mem_append_right _ (List.mem_append_left _ (List.mem_of_getElem? (i := 187) rfl))), rfl⟩
theorem wm_2_188 : Cond.methodLink "LinearRowsLaw" 139 y_L_set ∈ wG := List.mem_filter.mpr ⟨List.mem_append_right _ (List.mem_append_right _ (List.mem_append_left _ (List.mem_of_getElem? (i := 188) rfl))), rfl⟩
theorem wm_2_189 : Cond.static y_L_set ∈ wG := List.mem_filter.mpr ⟨List.mem_append_right _ (List.mem_append_right _ (List.mem_append_left _ (List.mem_of_getElem? (i := 189) rfl))), rfl⟩
theorem wm_2_190 : Cond.codeWith y_L_set b_L_set 8 (some .int) h_L_set ∈ wG := List.mem_filter.mpr ⟨List.mem_append_right _ (List.mem_append_right _ (List.mem_append_left _ (List.mem_of_getElem? (i := 190) rfl))), rfl⟩
theorem wm_2_191 : Cond.methodLink "LinearRowsLaw" 47 y_X_set ∈ wG := List.mem_filter.mpr ⟨List.mem_append_right _ (List.mem_append_right _ (List.mem_append_left _ (List.mem_of_getElem? (i := 191) rfl))), rfl⟩
theorem wm_2_192 : Cond.instanceMethod y_X_set ∈ wG := List.mem_filter.mpr ⟨List.mem_append_right _ (List.mem_append_right _ (List.mem_append_left _ (List.mem_of_getElem? (i := 192) rfl))), rfl⟩
theorem wm_2_193 : Cond.selects "LinearRows" y_X_set y_X_set ∈ wG := List.mem_filter.mpr ⟨List.mem_append_right _ (List.mem_append_right _ (List.mem_append_left _ (List.mem_of_getElem? (i := 193) rfl))), rfl⟩
theorem wm_2_194 : Cond.code y_X_set b_X_set 6 (some .int) ∈ wG := List.mem_filter.mpr ⟨List.mem_append_right _ (List.mem_append_right _ (List.mem_append_left _ (List.mem_of_getElem? (i := 194) rfl))), rfl⟩
theorem wm_2_195 : Cond.methodLink "LinearRows" 112 y_X_checkName ∈ wG := List.mem_filter.mpr ⟨List.mem_append_right _ (List.mem_append_right _ (List.mem_append_left _ (List.mem_of_getElem? (i := 195) rfl))), rfl⟩
theorem wm_2_197 : Cond.instanceMethod y_X_checkName ∈ wG := List.mem_filter.mpr ⟨List.mem_append_right _ (List.mem_append_right _ (List.mem_append_left _ (List.mem_of_getElem? (i := 197) rfl))), rfl⟩
theorem wm_2_198 : Cond.code y_X_checkName b_X_checkName 2 none ∈ wG := List.mem_filter.mpr ⟨List.mem_append_right _ (List.mem_append_right _ (List.mem_append_left _ (List.mem_of_getElem? (i := 198) rfl))), rfl⟩
theorem wm_2_200 : Cond.methodLink "LinearRows" 115 y_S_becomeAssigned ∈ wG := List.mem_filter.mpr ⟨List.mem_append_right _ (List.mem_append_right _ (List.mem_append_left _ (List.mem_of_getElem? (i := 200) rfl))), rfl⟩
theorem wm_2_201 : Cond.instanceMethod y_S_becomeAssigned ∈ wG := List.mem_filter.mpr ⟨List.mem_append_right _ (List.mem_append_right _ (List.mem_append_left _ (List.mem_of_getElem? (i := 201) rfl))), rfl⟩
theorem wm_2_202 : Cond.selects "LinearRows$Shape" y_S_becomeAssigned y_S_becomeAssigned ∈ wG := List.mem_filter.mpr ⟨List.mem_append_right _ (List.mem_append_right _ (List.mem_append_left _ (List.mem_of_getElem? (i := 202) rfl))), rfl⟩
theorem wm_2_203 : Cond.code y_S_becomeAssigned b_S_becomeAssigned 10 none ∈ wG := List.mem_filter.mpr ⟨List.mem_append_right _ (List.mem_append_right _ (List.mem_append_left _ (List.mem_of_getElem? (i := 203) rfl))), rfl⟩
theorem wm_2_204 : Cond.methodLink "LinearRows$Shape" 94 y_S_sourceOf ∈ wG := List.mem_filter.mpr ⟨List.mem_append_right _ (List.mem_append_right _ (List.mem_append_left _ (List.mem_of_getElem? (i := 204) rfl))), rfl⟩
theorem wm_2_205 : Cond.static y_S_sourceOf ∈ wG := List.mem_filter.mpr ⟨List.mem_append_right _ (List.mem_append_right _ (List.mem_append_left _ (List.mem_of_getElem? (i := 205) rfl))), rfl⟩
theorem wm_2_206 : Cond.code y_S_sourceOf b_S_sourceOf 4 (some .int) ∈ wG := List.mem_filter.mpr ⟨List.mem_append_right _ (List.mem_append_right _ (List.mem_append_left _ (List.mem_of_getElem? (i := 206) rfl))), rfl⟩
theorem wm_2_208 : Cond.static y_X_termAt ∈ wG := List.mem_filter.mpr ⟨List.mem_append_right _ (List.mem_append_right _ (List.mem_append_left _ (List.mem_of_getElem? (i := 208) rfl))), rfl⟩
theorem wm_2_209 : Cond.code y_X_termAt b_X_termAt 2 (some .int) ∈ wG := List.mem_filter.mpr ⟨List.mem_append_right _ (List.mem_append_right _ (List.mem_append_left _ (List.mem_of_getElem? (i := 209) rfl))), rfl⟩
theorem wm_2_210 : Cond.methodLink "LinearRows$Shape" 98 y_S_greatest ∈ wG := List.mem_filter.mpr ⟨List.mem_append_right _ (List.mem_append_right _ (List.mem_append_left _ (List.mem_of_getElem? (i := 210) rfl))), rfl⟩
theorem wm_2_211 : Cond.methodLink "LinearRows$Shape" 101 y_S_addedTo ∈ wG := List.mem_filter.mpr ⟨List.mem_append_right _ (List.mem_append_right _ (List.mem_append_left _ (List.mem_of_getElem? (i := 211) rfl))), rfl⟩
theorem wm_2_212 : Cond.static y_S_addedTo ∈ wG := List.mem_filter.mpr ⟨List.mem_append_right _ (List.mem_append_right _ (List.mem_append_left _ (List.mem_of_getElem? (i := 212) rfl))), rfl⟩
theorem wm_2_213 : Cond.code y_S_addedTo b_S_addedTo 5 (some .long) ∈ wG := List.mem_filter.mpr ⟨List.mem_append_right _ (List.mem_append_right _ (List.mem_append_left _ (List.mem_of_getElem? (i := 213) rfl))), rfl⟩
theorem wm_2_215 : Cond.methodLink "LinearRowsLaw" 142 y_L_forget ∈ wG := List.mem_filter.mpr ⟨List.mem_append_right _ (List.mem_append_right _ (List.mem_append_left _ (List.mem_of_getElem? (i := 215) rfl))), rfl⟩
theorem wm_2_216 : Cond.static y_L_forget ∈ wG := List.mem_filter.mpr ⟨List.mem_append_right _ (List.mem_append_right _ (List.mem_append_left _ (List.mem_of_getElem? (i := 216) rfl))), rfl⟩
theorem wm_2_217 : Cond.codeWith y_L_forget b_L_forget 5 (some .int) h_L_forget ∈ wG := List.mem_filter.mpr ⟨List.mem_append_right _ (List.mem_append_right _ (List.mem_append_left _ (List.mem_of_getElem? (i := 217) rfl))), rfl⟩
theorem wm_2_218 : Cond.methodLink "LinearRowsLaw" 50 y_X_forget ∈ wG := List.mem_filter.mpr ⟨List.mem_append_right _ (List.mem_append_right _ (List.mem_append_left _ (List.mem_of_getElem? (i := 218) rfl))), rfl⟩
theorem wm_2_219 : Cond.instanceMethod y_X_forget ∈ wG := List.mem_filter.mpr ⟨List.mem_append_right _ (List.mem_append_right _ (List.mem_append_left _ (List.mem_of_getElem? (i := 219) rfl))), rfl⟩
theorem wm_2_220 : Cond.selects "LinearRows" y_X_forget y_X_forget ∈ wG := List.mem_filter.mpr ⟨List.mem_append_right _ (List.mem_append_right _ (List.mem_append_left _ (List.mem_of_getElem? (i := 220) rfl))), rfl⟩
theorem wm_2_221 : Cond.code y_X_forget b_X_forget 3 (some .int) ∈ wG := List.mem_filter.mpr ⟨List.mem_append_right _ (List.mem_append_right _ (List.mem_append_left _ (List.mem_of_getElem? (i := 221) rfl))), rfl⟩
theorem wm_2_222 : Cond.methodLink "LinearRows" 119 y_S_becomeFree ∈ wG := List.mem_filter.mpr ⟨List.mem_append_right _ (List.mem_append_right _ (List.mem_append_left _ (List.mem_of_getElem? (i := 222) rfl))), rfl⟩
theorem wm_2_223 : Cond.instanceMethod y_S_becomeFree ∈ wG := List.mem_filter.mpr ⟨List.mem_append_right _ (List.mem_append_right _ (List.mem_append_left _ (List.mem_of_getElem? (i := 223) rfl))), rfl⟩
theorem wm_2_224 : Cond.selects "LinearRows$Shape" y_S_becomeFree y_S_becomeFree ∈ wG := List.mem_filter.mpr ⟨List.mem_append_right _ (List.mem_append_right _ (List.mem_append_left _ (List.mem_of_getElem? (i := 224) rfl))), rfl⟩
theorem wm_2_225 : Cond.code y_S_becomeFree b_S_becomeFree 4 none ∈ wG := List.mem_filter.mpr ⟨List.mem_append_right _ (List.mem_append_right _ (List.mem_append_left _ (List.mem_of_getElem? (i := 225) rfl))), rfl⟩
theorem wm_2_226 : Cond.methodLink "LinearRowsLaw" 146 y_L_within ∈ wG := List.mem_filter.mpr ⟨List.mem_append_right _ (List.mem_append_right _ (List.mem_append_left _ (List.mem_of_getElem? (i := 226) rfl))), rfl⟩
theorem wm_2_227 : Cond.static y_L_within ∈ wG := List.mem_filter.mpr ⟨List.mem_append_right _ (List.mem_append_right _ (List.mem_append_left _ (List.mem_of_getElem? (i := 227) rfl))), rfl⟩
theorem wm_2_228 : Cond.codeWith y_L_within b_L_within 5 (some .int) h_L_within ∈ wG := List.mem_filter.mpr ⟨List.mem_append_right _ (List.mem_append_right _ (List.mem_append_left _ (List.mem_of_getElem? (i := 228) rfl))), rfl⟩
theorem wm_2_229 : Cond.methodLink "LinearRowsLaw" 54 y_X_within ∈ wG := List.mem_filter.mpr ⟨List.mem_append_right _ (List.mem_append_right _ (List.mem_append_left _ (List.mem_of_getElem? (i := 229) rfl))), rfl⟩
theorem wm_2_230 : Cond.instanceMethod y_X_within ∈ wG := List.mem_filter.mpr ⟨List.mem_append_right _ (List.mem_append_right _ (List.mem_append_left _ (List.mem_of_getElem? (i := 230) rfl))), rfl⟩
theorem wm_2_231 : Cond.selects "LinearRows" y_X_within y_X_within ∈ wG := List.mem_filter.mpr ⟨List.mem_append_right _ (List.mem_append_right _ (List.mem_append_left _ (List.mem_of_getElem? (i := 231) rfl))), rfl⟩
theorem wm_2_232 : Cond.code y_X_within b_X_within 3 (some .boolean) ∈ wG := List.mem_filter.mpr ⟨List.mem_append_right _ (List.mem_append_right _ (List.mem_append_left _ (List.mem_of_getElem? (i := 232) rfl))), rfl⟩
theorem wm_2_233 : Cond.methodLink "LinearRows" 130 y_T_isNowhereAbove ∈ wG := List.mem_filter.mpr ⟨List.mem_append_right _ (List.mem_append_right _ (List.mem_append_left _ (List.mem_of_getElem? (i := 233) rfl))), rfl⟩
theorem wm_2_234 : Cond.instanceMethod y_T_isNowhereAbove ∈ wG := List.mem_filter.mpr ⟨List.mem_append_right _ (List.mem_append_right _ (List.mem_append_left _ (List.mem_of_getElem? (i := 234) rfl))), rfl⟩
theorem wm_2_235 : Cond.selects "LinearRows$Table" y_T_isNowhereAbove y_T_isNowhereAbove ∈ wG := List.mem_filter.mpr ⟨List.mem_append_right _ (List.mem_append_right _ (List.mem_append_left _ (List.mem_of_getElem? (i := 235) rfl))), rfl⟩
theorem wm_2_236 : Cond.code y_T_isNowhereAbove b_T_isNowhereAbove 4 (some .boolean) ∈ wG := List.mem_filter.mpr ⟨List.mem_append_right _ (List.mem_append_right _ (List.mem_append_left _ (List.mem_of_getElem? (i := 236) rfl))), rfl⟩
theorem wm_2_237 : Cond.methodLink "LinearRowsLaw" 149 y_L_put ∈ wG := List.mem_filter.mpr ⟨List.mem_append_right _ (List.mem_append_right _ (List.mem_append_left _ (List.mem_of_getElem? (i := 237) rfl))), rfl⟩
theorem wm_2_238 : Cond.static y_L_put ∈ wG := List.mem_filter.mpr ⟨List.mem_append_right _ (List.mem_append_right _ (List.mem_append_left _ (List.mem_of_getElem? (i := 238) rfl))), rfl⟩
theorem wm_2_239 : Cond.codeWith y_L_put b_L_put 6 (some .int) h_L_put ∈ wG := List.mem_filter.mpr ⟨List.mem_append_right _ (List.mem_append_right _ (List.mem_append_left _ (List.mem_of_getElem? (i := 239) rfl))), rfl⟩
theorem wm_3_0 : Cond.methodLink "LinearRowsLaw" 58 y_X_put ∈ wG := List.mem_filter.mpr ⟨List.mem_append_right _ (List.mem_append_right _ (List.mem_append_right _ (List.mem_append_left _ (List.mem_of_getElem? (i := 0) rfl)))), rfl⟩
theorem wm_3_1 : Cond.instanceMethod y_X_put ∈ wG := List.mem_filter.mpr ⟨List.mem_append_right _ (List.mem_append_right _ (List.mem_append_right _ (List.mem_append_left _ (List.mem_of_getElem? (i := 1) rfl)))), rfl⟩
theorem wm_3_2 : Cond.selects "LinearRows" y_X_put y_X_put ∈ wG := List.mem_filter.mpr ⟨List.mem_append_right _ (List.mem_append_right _ (List.mem_append_right _ (List.mem_append_left _ (List.mem_of_getElem? (i := 2) rfl)))), rfl⟩
theorem wm_3_3 : Cond.code y_X_put b_X_put 6 (some .long) ∈ wG := List.mem_filter.mpr ⟨List.mem_append_right _ (List.mem_append_right _ (List.mem_append_right _ (List.mem_append_left _ (List.mem_of_getElem? (i := 3) rfl)))), rfl⟩
theorem wm_3_4 : Cond.methodLink "LinearRowsLaw" 153 y_L_point ∈ wG := List.mem_filter.mpr ⟨List.mem_append_right _ (List.mem_append_right _ (List.mem_append_right _ (List.mem_append_left _ (List.mem_of_getElem? (i := 4) rfl)))), rfl⟩
theorem wm_3_5 : Cond.static y_L_point ∈ wG := List.mem_filter.mpr ⟨List.mem_append_right _ (List.mem_append_right _ (List.mem_append_right _ (List.mem_append_left _ (List.mem_of_getElem? (i := 5) rfl)))), rfl⟩
theorem wm_3_6 : Cond.codeWith y_L_point b_L_point 4 (some .int) h_L_point ∈ wG := List.mem_filter.mpr ⟨List.mem_append_right _ (List.mem_append_right _ (List.mem_append_right _ (List.mem_append_left _ (List.mem_of_getElem? (i := 6) rfl)))), rfl⟩
theorem wm_3_7 : Cond.methodLink "LinearRowsLaw" 62 y_X_point ∈ wG := List.mem_filter.mpr ⟨List.mem_append_right _ (List.mem_append_right _ (List.mem_append_right _ (List.mem_append_left _ (List.mem_of_getElem? (i := 7) rfl)))), rfl⟩
theorem wm_3_8 : Cond.instanceMethod y_X_point ∈ wG := List.mem_filter.mpr ⟨List.mem_append_right _ (List.mem_append_right _ (List.mem_append_right _ (List.mem_append_left _ (List.mem_of_getElem? (i := 8) rfl)))), rfl⟩
theorem wm_3_9 : Cond.selects "LinearRows" y_X_point y_X_point ∈ wG := List.mem_filter.mpr ⟨List.mem_append_right _ (List.mem_append_right _ (List.mem_append_right _ (List.mem_append_left _ (List.mem_of_getElem? (i := 9) rfl)))), rfl⟩
theorem wm_3_10 : Cond.code y_X_point b_X_point 2 (some .long) ∈ wG := List.mem_filter.mpr ⟨List.mem_append_right _ (List.mem_append_right _ (List.mem_append_right _ (List.mem_append_left _ (List.mem_of_getElem? (i := 10) rfl)))), rfl⟩
theorem wm_3_11 : Cond.methodLink "LinearRowsLaw" 157 y_L_has ∈ wG := List.mem_filter.mpr ⟨List.mem_append_right _ (List.mem_append_right _ (List.mem_append_right _ (List.mem_append_left _ (List.mem_of_getElem? (i := 11) rfl)))), rfl⟩
theorem wm_3_12 : Cond.static y_L_has ∈ wG := List.mem_filter.mpr ⟨List.mem_append_right _ (List.mem_append_right _ (List.mem_append_right _ (List.mem_append_left _ (List.mem_of_getElem? (i := 12) rfl)))), rfl⟩
theorem wm_3_13 : Cond.codeWith y_L_has b_L_has 4 (some .int) h_L_has ∈ wG := List.mem_filter.mpr ⟨List.mem_append_right _ (List.mem_append_right _ (List.mem_append_right _ (List.mem_append_left _ (List.mem_of_getElem? (i := 13) rfl)))), rfl⟩
theorem wm_3_14 : Cond.methodLink "LinearRowsLaw" 66 y_X_has ∈ wG := List.mem_filter.mpr ⟨List.mem_append_right _ (List.mem_append_right _ (List.mem_append_right _ (List.mem_append_left _ (List.mem_of_getElem? (i := 14) rfl)))), rfl⟩
theorem wm_3_15 : Cond.instanceMethod y_X_has ∈ wG := List.mem_filter.mpr ⟨List.mem_append_right _ (List.mem_append_right _ (List.mem_append_right _ (List.mem_append_left _ (List.mem_of_getElem? (i := 15) rfl)))), rfl⟩
theorem wm_3_16 : Cond.selects "LinearRows" y_X_has y_X_has ∈ wG := List.mem_filter.mpr ⟨List.mem_append_right _ (List.mem_append_right _ (List.mem_append_right _ (List.mem_append_left _ (List.mem_of_getElem? (i := 16) rfl)))), rfl⟩
theorem wm_3_17 : Cond.code y_X_has b_X_has 4 (some .boolean) ∈ wG := List.mem_filter.mpr ⟨List.mem_append_right _ (List.mem_append_right _ (List.mem_append_right _ (List.mem_append_left _ (List.mem_of_getElem? (i := 17) rfl)))), rfl⟩
theorem wm_3_18 : Cond.methodLink "LinearRows" 134 y_X_numberAt ∈ wG := List.mem_filter.mpr ⟨List.mem_append_right _ (List.mem_append_right _ (List.mem_append_right _ (List.mem_append_left _ (List.mem_of_getElem? (i := 18) rfl)))), rfl⟩
theorem wm_3_20 : Cond.instanceMethod y_X_numberAt ∈ wG := List.mem_filter.mpr ⟨List.mem_append_right _ (List.mem_append_right _ (List.mem_append_right _ (List.mem_append_left _ (List.mem_of_getElem? (i := 20) rfl)))), rfl⟩
theorem wm_3_21 : Cond.code y_X_numberAt b_X_numberAt 4 (some .long) ∈ wG := List.mem_filter.mpr ⟨List.mem_append_right _ (List.mem_append_right _ (List.mem_append_right _ (List.mem_append_left _ (List.mem_of_getElem? (i := 21) rfl)))), rfl⟩
theorem wm_3_22 : Cond.methodLink "LinearRows" 138 y_T_at ∈ wG := List.mem_filter.mpr ⟨List.mem_append_right _ (List.mem_append_right _ (List.mem_append_right _ (List.mem_append_left _ (List.mem_of_getElem? (i := 22) rfl)))), rfl⟩
theorem wm_3_23 : Cond.methodLink "LinearRowsLaw" 160 y_L_sample ∈ wG := List.mem_filter.mpr ⟨List.mem_append_right _ (List.mem_append_right _ (List.mem_append_right _ (List.mem_append_left _ (List.mem_of_getElem? (i := 23) rfl)))), rfl⟩
theorem wm_3_24 : Cond.static y_L_sample ∈ wG := List.mem_filter.mpr ⟨List.mem_append_right _ (List.mem_append_right _ (List.mem_append_right _ (List.mem_append_left _ (List.mem_of_getElem? (i := 24) rfl)))), rfl⟩
theorem wm_3_25 : Cond.codeWith y_L_sample b_L_sample 4 (some .int) h_L_sample ∈ wG := List.mem_filter.mpr ⟨List.mem_append_right _ (List.mem_append_right _ (List.mem_append_right _ (List.mem_append_left _ (List.mem_of_getElem? (i := 25) rfl)))), rfl⟩
theorem wm_3_26 : Cond.methodLink "LinearRowsLaw" 70 y_X_sample ∈ wG := List.mem_filter.mpr ⟨List.mem_append_right _ (List.mem_append_right _ (List.mem_append_right _ (List.mem_append_left _ (List.mem_of_getElem? (i := 26) rfl)))), rfl⟩
theorem wm_3_27 : Cond.instanceMethod y_X_sample ∈ wG := List.mem_filter.mpr ⟨List.mem_append_right _ (List.mem_append_right _ (List.mem_append_right _ (List.mem_append_left _ (List.mem_of_getElem? (i := 27) rfl)))), rfl⟩
theorem wm_3_28 : Cond.selects "LinearRows" y_X_sample y_X_sample ∈ wG := List.mem_filter.mpr ⟨List.mem_append_right _ (List.mem_append_right _ (List.mem_append_right _ (List.mem_append_left _ (List.mem_of_getElem? (i := 28) rfl)))), rfl⟩
theorem wm_3_29 : Cond.code y_X_sample b_X_sample 3 (some .boolean) ∈ wG := List.mem_filter.mpr ⟨List.mem_append_right _ (List.mem_append_right _ (List.mem_append_right _ (List.mem_append_left _ (List.mem_of_getElem? (i := 29) rfl)))), rfl⟩
theorem wm_3_30 : Cond.methodLink "LinearRows" 141 y_X_sampleNumber ∈ wG := List.mem_filter.mpr ⟨List.mem_append_right _ (List.mem_append_right _ (List.mem_append_right _ (List.mem_append_left _ (List.mem_of_getElem? (i := 30) rfl)))), rfl⟩
theorem wm_3_32 : Cond.instanceMethod y_X_sampleNumber ∈ wG := List.mem_filter.mpr ⟨List.mem_append_right _ (List.mem_append_right _ (List.mem_append_right _ (List.mem_append_left _ (List.mem_of_getElem? (i := 32) rfl)))), rfl⟩
theorem wm_3_33 : Cond.code y_X_sampleNumber b_X_sampleNumber 7 (some .long) ∈ wG := List.mem_filter.mpr ⟨List.mem_append_right _ (List.mem_append_right _ (List.mem_append_right _ (List.mem_append_left _ (List.mem_of_getElem? (i := 33) rfl)))), rfl⟩
theorem wm_3_34 : Cond.methodLink "LinearRows" 177 y_X_placeOf ∈ wG := List.mem_filter.mpr ⟨List.mem_append_right _ (List.mem_append_right _ (List.mem_append_right _ (List.mem_append_left _ (List.mem_of_getElem? (i := 34) rfl)))), rfl⟩
theorem wm_3_35 : Cond.methodLink "LinearRows" 216 y_X_greatestBeside ∈ wG := List.mem_filter.mpr ⟨List.mem_append_right _ (List.mem_append_right _ (List.mem_append_right _ (List.mem_append_left _ (List.mem_of_getElem? (i := 35) rfl)))), rfl⟩
theorem wm_3_37 : Cond.instanceMethod y_X_greatestBeside ∈ wG := List.mem_filter.mpr ⟨List.mem_append_right _ (List.mem_append_right _ (List.mem_append_right _ (List.mem_append_left _ (List.mem_of_getElem? (i := 37) rfl)))), rfl⟩
theorem wm_3_38 : Cond.code y_X_greatestBeside b_X_greatestBeside 7 (some .long) ∈ wG := List.mem_filter.mpr ⟨List.mem_append_right _ (List.mem_append_right _ (List.mem_append_right _ (List.mem_append_left _ (List.mem_of_getElem? (i := 38) rfl)))), rfl⟩
theorem wm_3_39 : Cond.methodLink "LinearRows" 219 y_T_half ∈ wG := List.mem_filter.mpr ⟨List.mem_append_right _ (List.mem_append_right _ (List.mem_append_right _ (List.mem_append_left _ (List.mem_of_getElem? (i := 39) rfl)))), rfl⟩
theorem wm_3_40 : Cond.methodLink "LinearRows" 222 y_X_plus ∈ wG := List.mem_filter.mpr ⟨List.mem_append_right _ (List.mem_append_right _ (List.mem_append_right _ (List.mem_append_left _ (List.mem_of_getElem? (i := 40) rfl)))), rfl⟩
theorem wm_3_41 : Cond.methodLink "LinearRows" 226 y_JM_min_JJJ ∈ wG := List.mem_filter.mpr ⟨List.mem_append_right _ (List.mem_append_right _ (List.mem_append_right _ (List.mem_append_left _ (List.mem_of_getElem? (i := 41) rfl)))), rfl⟩
theorem wm_3_42 : Cond.methodLink "LinearRowsLaw" 163 y_L_needed ∈ wG := List.mem_filter.mpr ⟨List.mem_append_right _ (List.mem_append_right _ (List.mem_append_right _ (List.mem_append_left _ (List.mem_of_getElem? (i := 42) rfl)))), rfl⟩
theorem wm_3_43 : Cond.static y_L_needed ∈ wG := List.mem_filter.mpr ⟨List.mem_append_right _ (List.mem_append_right _ (List.mem_append_right _ (List.mem_append_left _ (List.mem_of_getElem? (i := 43) rfl)))), rfl⟩
theorem wm_3_44 : Cond.codeWith y_L_needed b_L_needed 4 (some .int) h_L_needed ∈ wG := List.mem_filter.mpr ⟨List.mem_append_right _ (List.mem_append_right _ (List.mem_append_right _ (List.mem_append_left _ (List.mem_of_getElem? (i := 44) rfl)))), rfl⟩
theorem wm_3_45 : Cond.methodLink "LinearRowsLaw" 73 y_X_needed ∈ wG := List.mem_filter.mpr ⟨List.mem_append_right _ (List.mem_append_right _ (List.mem_append_right _ (List.mem_append_left _ (List.mem_of_getElem? (i := 45) rfl)))), rfl⟩
theorem wm_3_46 : Cond.instanceMethod y_X_needed ∈ wG := List.mem_filter.mpr ⟨List.mem_append_right _ (List.mem_append_right _ (List.mem_append_right _ (List.mem_append_left _ (List.mem_of_getElem? (i := 46) rfl)))), rfl⟩
theorem wm_3_47 : Cond.selects "LinearRows" y_X_needed y_X_needed ∈ wG := List.mem_filter.mpr ⟨List.mem_append_right _ (List.mem_append_right _ (List.mem_append_right _ (List.mem_append_left _ (List.mem_of_getElem? (i := 47) rfl)))), rfl⟩
theorem wm_3_48 : Cond.code y_X_needed b_X_needed 2 (some .int) ∈ wG := List.mem_filter.mpr ⟨List.mem_append_right _ (List.mem_append_right _ (List.mem_append_right _ (List.mem_append_left _ (List.mem_of_getElem? (i := 48) rfl)))), rfl⟩
theorem wm_3_49 : Cond.constantLong "LinearRows" 145 (-1) ∈ wG := List.mem_filter.mpr ⟨List.mem_append_right _ (List.mem_append_right _ (List.mem_append_right _ (List.mem_append_left _ (List.mem_of_getElem? (i := 49) rfl)))), rfl⟩
theorem wm_3_50 : Cond.methodLink "LinearRows" 147 y_X_tellRow ∈ wG := List.mem_filter.mpr ⟨List.mem_append_right _ (List.mem_append_right _ (List.mem_append_right _ (List.mem_append_left _ (List.mem_of_getElem? (i := 50) rfl)))), rfl⟩
theorem wm_3_52 : Cond.instanceMethod y_X_tellRow ∈ wG := List.mem_filter.mpr ⟨List.mem_append_right _ (List.mem_append_right _ (List.mem_append_right _ (List.mem_append_left _ (List.mem_of_getElem? (i := 52) rfl)))), rfl⟩
theorem wm_3_53 : Cond.code y_X_tellRow b_X_tellRow 6 none ∈ wG := List.mem_filter.mpr ⟨List.mem_append_right _ (List.mem_append_right _ (List.mem_append_right _ (List.mem_append_left _ (List.mem_of_getElem? (i := 53) rfl)))), rfl⟩
theorem wm_3_54 : Cond.methodLink "LinearRows" 150 y_T_takeFrom ∈ wG := List.mem_filter.mpr ⟨List.mem_append_right _ (List.mem_append_right _ (List.mem_append_right _ (List.mem_append_left _ (List.mem_of_getElem? (i := 54) rfl)))), rfl⟩
theorem wm_3_55 : Cond.methodLink "LinearRows" 154 y_X_leaveOutPairs ∈ wG := List.mem_filter.mpr ⟨List.mem_append_right _ (List.mem_append_right _ (List.mem_append_right _ (List.mem_append_left _ (List.mem_of_getElem? (i := 55) rfl)))), rfl⟩
theorem wm_3_57 : Cond.instanceMethod y_X_leaveOutPairs ∈ wG := List.mem_filter.mpr ⟨List.mem_append_right _ (List.mem_append_right _ (List.mem_append_right _ (List.mem_append_left _ (List.mem_of_getElem? (i := 57) rfl)))), rfl⟩
theorem wm_3_58 : Cond.code y_X_leaveOutPairs b_X_leaveOutPairs 3 none ∈ wG := List.mem_filter.mpr ⟨List.mem_append_right _ (List.mem_append_right _ (List.mem_append_right _ (List.mem_append_left _ (List.mem_of_getElem? (i := 58) rfl)))), rfl⟩
theorem wm_3_59 : Cond.methodLink "LinearRows" 228 y_X_placeOfNextName ∈ wG := List.mem_filter.mpr ⟨List.mem_append_right _ (List.mem_append_right _ (List.mem_append_right _ (List.mem_append_left _ (List.mem_of_getElem? (i := 59) rfl)))), rfl⟩
theorem wm_3_60 : Cond.static y_X_placeOfNextName ∈ wG := List.mem_filter.mpr ⟨List.mem_append_right _ (List.mem_append_right _ (List.mem_append_right _ (List.mem_append_left _ (List.mem_of_getElem? (i := 60) rfl)))), rfl⟩
theorem wm_3_61 : Cond.code y_X_placeOfNextName b_X_placeOfNextName 1 (some .int) ∈ wG := List.mem_filter.mpr ⟨List.mem_append_right _ (List.mem_append_right _ (List.mem_append_right _ (List.mem_append_left _ (List.mem_of_getElem? (i := 61) rfl)))), rfl⟩
theorem wm_3_62 : Cond.methodLink "LinearRows" 231 y_X_leaveOutUnlessNeeded ∈ wG := List.mem_filter.mpr ⟨List.mem_append_right _ (List.mem_append_right _ (List.mem_append_right _ (List.mem_append_left _ (List.mem_of_getElem? (i := 62) rfl)))), rfl⟩
theorem wm_3_64 : Cond.instanceMethod y_X_leaveOutUnlessNeeded ∈ wG := List.mem_filter.mpr ⟨List.mem_append_right _ (List.mem_append_right _ (List.mem_append_right _ (List.mem_append_left _ (List.mem_of_getElem? (i := 64) rfl)))), rfl⟩
theorem wm_3_65 : Cond.code y_X_leaveOutUnlessNeeded b_X_leaveOutUnlessNeeded 5 none ∈ wG := List.mem_filter.mpr ⟨List.mem_append_right _ (List.mem_append_right _ (List.mem_append_right _ (List.mem_append_left _ (List.mem_of_getElem? (i := 65) rfl)))), rfl⟩
theorem wm_3_66 : Cond.methodLink "LinearRows" 235 y_T_store ∈ wG := List.mem_filter.mpr ⟨List.mem_append_right _ (List.mem_append_right _ (List.mem_append_right _ (List.mem_append_left _ (List.mem_of_getElem? (i := 66) rfl)))), rfl⟩
theorem wm_3_67 : Cond.methodLink "LinearRows" 183 y_T_close ∈ wG := List.mem_filter.mpr ⟨List.mem_append_right _ (List.mem_append_right _ (List.mem_append_right _ (List.mem_append_left _ (List.mem_of_getElem? (i := 67) rfl)))), rfl⟩
theorem wm_3_68 : Cond.methodLink "LinearRows" 157 y_X_leaveOutSingles ∈ wG := List.mem_filter.mpr ⟨List.mem_append_right _ (List.mem_append_right _ (List.mem_append_right _ (List.mem_append_left _ (List.mem_of_getElem? (i := 68) rfl)))), rfl⟩
theorem wm_3_70 : Cond.instanceMethod y_X_leaveOutSingles ∈ wG := List.mem_filter.mpr ⟨List.mem_append_right _ (List.mem_append_right _ (List.mem_append_right _ (List.mem_append_left _ (List.mem_of_getElem? (i := 70) rfl)))), rfl⟩
theorem wm_3_71 : Cond.code y_X_leaveOutSingles b_X_leaveOutSingles 2 none ∈ wG := List.mem_filter.mpr ⟨List.mem_append_right _ (List.mem_append_right _ (List.mem_append_right _ (List.mem_append_left _ (List.mem_of_getElem? (i := 71) rfl)))), rfl⟩
theorem wm_3_72 : Cond.methodLink "LinearRows" 160 y_X_tellLeftRows ∈ wG := List.mem_filter.mpr ⟨List.mem_append_right _ (List.mem_append_right _ (List.mem_append_right _ (List.mem_append_left _ (List.mem_of_getElem? (i := 72) rfl)))), rfl⟩
theorem wm_3_74 : Cond.instanceMethod y_X_tellLeftRows ∈ wG := List.mem_filter.mpr ⟨List.mem_append_right _ (List.mem_append_right _ (List.mem_append_right _ (List.mem_append_left _ (List.mem_of_getElem? (i := 74) rfl)))), rfl⟩
theorem wm_3_75 : Cond.code y_X_tellLeftRows b_X_tellLeftRows 3 none ∈ wG := List.mem_filter.mpr ⟨List.mem_append_right _ (List.mem_append_right _ (List.mem_append_right _ (List.mem_append_left _ (List.mem_of_getElem? (i := 75) rfl)))), rfl⟩
theorem wm_3_76 : Cond.methodLink "LinearRows" 238 y_X_termAt ∈ wG := List.mem_filter.mpr ⟨List.mem_append_right _ (List.mem_append_right _ (List.mem_append_right _ (List.mem_append_left _ (List.mem_of_getElem? (i := 76) rfl)))), rfl⟩
theorem wm_3_77 : Cond.methodLink "LinearRowsLaw" 166 y_L_needs ∈ wG := List.mem_filter.mpr ⟨List.mem_append_right _ (List.mem_append_right _ (List.mem_append_right _ (List.mem_append_left _ (List.mem_of_getElem? (i := 77) rfl)))), rfl⟩
theorem wm_3_78 : Cond.static y_L_needs ∈ wG := List.mem_filter.mpr ⟨List.mem_append_right _ (List.mem_append_right _ (List.mem_append_right _ (List.mem_append_left _ (List.mem_of_getElem? (i := 78) rfl)))), rfl⟩
theorem wm_3_79 : Cond.codeWith y_L_needs b_L_needs 5 (some .int) h_L_needs ∈ wG := List.mem_filter.mpr ⟨List.mem_append_right _ (List.mem_append_right _ (List.mem_append_right _ (List.mem_append_left _ (List.mem_of_getElem? (i := 79) rfl)))), rfl⟩
theorem wm_3_80 : Cond.methodLink "LinearRowsLaw" 77 y_X_needs ∈ wG := List.mem_filter.mpr ⟨List.mem_append_right _ (List.mem_append_right _ (List.mem_append_right _ (List.mem_append_left _ (List.mem_of_getElem? (i := 80) rfl)))), rfl⟩
theorem wm_3_81 : Cond.instanceMethod y_X_needs ∈ wG := List.mem_filter.mpr ⟨List.mem_append_right _ (List.mem_append_right _ (List.mem_append_right _ (List.mem_append_left _ (List.mem_of_getElem? (i := 81) rfl)))), rfl⟩
theorem wm_3_82 : Cond.selects "LinearRows" y_X_needs y_X_needs ∈ wG := List.mem_filter.mpr ⟨List.mem_append_right _ (List.mem_append_right _ (List.mem_append_right _ (List.mem_append_left _ (List.mem_of_getElem? (i := 82) rfl)))), rfl⟩
theorem wm_3_83 : Cond.code y_X_needs b_X_needs 3 (some .long) ∈ wG := List.mem_filter.mpr ⟨List.mem_append_right _ (List.mem_append_right _ (List.mem_append_right _ (List.mem_append_left _ (List.mem_of_getElem? (i := 83) rfl)))), rfl⟩
theorem wm_3_85 : Cond.methodLink "LinearRowsLaw" 169 y_L_fits ∈ wG := List.mem_filter.mpr ⟨List.mem_append_right _ (List.mem_append_right _ (List.mem_append_right _ (List.mem_append_left _ (List.mem_of_getElem? (i := 85) rfl)))), rfl⟩
theorem wm_3_86 : Cond.static y_L_fits ∈ wG := List.mem_filter.mpr ⟨List.mem_append_right _ (List.mem_append_right _ (List.mem_append_right _ (List.mem_append_left _ (List.mem_of_getElem? (i := 86) rfl)))), rfl⟩
theorem wm_3_87 : Cond.codeWith y_L_fits b_L_fits 6 (some .int) h_L_fits ∈ wG := List.mem_filter.mpr ⟨List.mem_append_right _ (List.mem_append_right _ (List.mem_append_right _ (List.mem_append_left _ (List.mem_of_getElem? (i := 87) rfl)))), rfl⟩
theorem wm_3_88 : Cond.methodLink "LinearRowsLaw" 81 y_X_fits ∈ wG := List.mem_filter.mpr ⟨List.mem_append_right _ (List.mem_append_right _ (List.mem_append_right _ (List.mem_append_left _ (List.mem_of_getElem? (i := 88) rfl)))), rfl⟩
theorem wm_3_89 : Cond.instanceMethod y_X_fits ∈ wG := List.mem_filter.mpr ⟨List.mem_append_right _ (List.mem_append_right _ (List.mem_append_right _ (List.mem_append_left _ (List.mem_of_getElem? (i := 89) rfl)))), rfl⟩
theorem wm_3_90 : Cond.selects "LinearRows" y_X_fits y_X_fits ∈ wG := List.mem_filter.mpr ⟨List.mem_append_right _ (List.mem_append_right _ (List.mem_append_right _ (List.mem_append_left _ (List.mem_of_getElem? (i := 90) rfl)))), rfl⟩
theorem wm_3_91 : Cond.code y_X_fits b_X_fits 6 (some .boolean) ∈ wG := List.mem_filter.mpr ⟨List.mem_append_right _ (List.mem_append_right _ (List.mem_append_right _ (List.mem_append_left _ (List.mem_of_getElem? (i := 91) rfl)))), rfl⟩
theorem wm_3_93 : Cond.methodLink "LinearRowsLaw" 172 y_L_array ∈ wG := List.mem_filter.mpr ⟨List.mem_append_right _ (List.mem_append_right _ (List.mem_append_right _ (List.mem_append_left _ (List.mem_of_getElem? (i := 93) rfl)))), rfl⟩
theorem wm_3_94 : Cond.static y_L_array ∈ wG := List.mem_filter.mpr ⟨List.mem_append_right _ (List.mem_append_right _ (List.mem_append_right _ (List.mem_append_left _ (List.mem_of_getElem? (i := 94) rfl)))), rfl⟩
theorem wm_3_95 : Cond.codeWith y_L_array b_L_array 6 (some .int) h_L_array ∈ wG := List.mem_filter.mpr ⟨List.mem_append_right _ (List.mem_append_right _ (List.mem_append_right _ (List.mem_append_left _ (List.mem_of_getElem? (i := 95) rfl)))), rfl⟩
theorem wm_3_96 : Cond.methodLink "LinearRowsLaw" 85 y_X_array ∈ wG := List.mem_filter.mpr ⟨List.mem_append_right _ (List.mem_append_right _ (List.mem_append_right _ (List.mem_append_left _ (List.mem_of_getElem? (i := 96) rfl)))), rfl⟩
theorem wm_3_97 : Cond.instanceMethod y_X_array ∈ wG := List.mem_filter.mpr ⟨List.mem_append_right _ (List.mem_append_right _ (List.mem_append_right _ (List.mem_append_left _ (List.mem_of_getElem? (i := 97) rfl)))), rfl⟩
theorem wm_3_98 : Cond.selects "LinearRows" y_X_array y_X_array ∈ wG := List.mem_filter.mpr ⟨List.mem_append_right _ (List.mem_append_right _ (List.mem_append_right _ (List.mem_append_left _ (List.mem_of_getElem? (i := 98) rfl)))), rfl⟩
theorem wm_3_99 : Cond.code y_X_array b_X_array 5 (some .int) ∈ wG := List.mem_filter.mpr ⟨List.mem_append_right _ (List.mem_append_right _ (List.mem_append_right _ (List.mem_append_left _ (List.mem_of_getElem? (i := 99) rfl)))), rfl⟩
theorem wm_3_101 : Cond.methodLink "LinearRows" 180 y_T_lowerTo ∈ wG := List.mem_filter.mpr ⟨List.mem_append_right _ (List.mem_append_right _ (List.mem_append_right _ (List.mem_append_left _ (List.mem_of_getElem? (i := 101) rfl)))), rfl⟩
theorem wm_3_102 : Cond.methodLink "LinearRowsLaw" 175 y_L_told ∈ wG := List.mem_filter.mpr ⟨List.mem_append_right _ (List.mem_append_right _ (List.mem_append_right _ (List.mem_append_left _ (List.mem_of_getElem? (i := 102) rfl)))), rfl⟩
theorem wm_3_103 : Cond.static y_L_told ∈ wG := List.mem_filter.mpr ⟨List.mem_append_right _ (List.mem_append_right _ (List.mem_append_right _ (List.mem_append_left _ (List.mem_of_getElem? (i := 103) rfl)))), rfl⟩
theorem wm_3_104 : Cond.codeWith y_L_told b_L_told 4 (some .int) h_L_told ∈ wG := List.mem_filter.mpr ⟨List.mem_append_right _ (List.mem_append_right _ (List.mem_append_right _ (List.mem_append_left _ (List.mem_of_getElem? (i := 104) rfl)))), rfl⟩
theorem wm_3_105 : Cond.methodLink "LinearRowsLaw" 88 y_X_told ∈ wG := List.mem_filter.mpr ⟨List.mem_append_right _ (List.mem_append_right _ (List.mem_append_right _ (List.mem_append_left _ (List.mem_of_getElem? (i := 105) rfl)))), rfl⟩
theorem wm_3_106 : Cond.instanceMethod y_X_told ∈ wG := List.mem_filter.mpr ⟨List.mem_append_right _ (List.mem_append_right _ (List.mem_append_right _ (List.mem_append_left _ (List.mem_of_getElem? (i := 106) rfl)))), rfl⟩
theorem wm_3_107 : Cond.selects "LinearRows" y_X_told y_X_told ∈ wG := List.mem_filter.mpr ⟨List.mem_append_right _ (List.mem_append_right _ (List.mem_append_right _ (List.mem_append_left _ (List.mem_of_getElem? (i := 107) rfl)))), rfl⟩
theorem wm_3_108 : Cond.code y_X_told b_X_told 2 (some .int) ∈ wG := List.mem_filter.mpr ⟨List.mem_append_right _ (List.mem_append_right _ (List.mem_append_right _ (List.mem_append_left _ (List.mem_of_getElem? (i := 108) rfl)))), rfl⟩
theorem wm_3_110 : Cond.methodLink "LinearRows" 189 y_X_countEmpty ∈ wG := List.mem_filter.mpr ⟨List.mem_append_right _ (List.mem_append_right _ (List.mem_append_right _ (List.mem_append_left _ (List.mem_of_getElem? (i := 110) rfl)))), rfl⟩
theorem wm_3_112 : Cond.instanceMethod y_X_countEmpty ∈ wG := List.mem_filter.mpr ⟨List.mem_append_right _ (List.mem_append_right _ (List.mem_append_right _ (List.mem_append_left _ (List.mem_of_getElem? (i := 112) rfl)))), rfl⟩
theorem wm_3_113 : Cond.code y_X_countEmpty b_X_countEmpty 3 (some .int) ∈ wG := List.mem_filter.mpr ⟨List.mem_append_right _ (List.mem_append_right _ (List.mem_append_right _ (List.mem_append_left _ (List.mem_of_getElem? (i := 113) rfl)))), rfl⟩
theorem wm_3_114 : Cond.methodLink "LinearRows" 193 y_T_countRows ∈ wG := List.mem_filter.mpr ⟨List.mem_append_right _ (List.mem_append_right _ (List.mem_append_right _ (List.mem_append_left _ (List.mem_of_getElem? (i := 114) rfl)))), rfl⟩
theorem wm_3_115 : Cond.instanceMethod y_T_countRows ∈ wG := List.mem_filter.mpr ⟨List.mem_append_right _ (List.mem_append_right _ (List.mem_append_right _ (List.mem_append_left _ (List.mem_of_getElem? (i := 115) rfl)))), rfl⟩
theorem wm_3_116 : Cond.selects "LinearRows$Table" y_T_countRows y_T_countRows ∈ wG := List.mem_filter.mpr ⟨List.mem_append_right _ (List.mem_append_right _ (List.mem_append_right _ (List.mem_append_left _ (List.mem_of_getElem? (i := 116) rfl)))), rfl⟩
theorem wm_3_117 : Cond.code y_T_countRows b_T_countRows 4 (some .int) ∈ wG := List.mem_filter.mpr ⟨List.mem_append_right _ (List.mem_append_right _ (List.mem_append_right _ (List.mem_append_left _ (List.mem_of_getElem? (i := 117) rfl)))), rfl⟩
theorem wm_3_118 : Cond.classLink "LinearRowsLaw" 99 "LinearRowsModel" ∈ wG := List.mem_filter.mpr ⟨List.mem_append_right _ (List.mem_append_right _ (List.mem_append_right _ (List.mem_append_left _ (List.mem_of_getElem? (i := 118) rfl)))), rfl⟩
theorem wm_3_119 : Cond.instantiable "LinearRowsModel" 13 ∈ wG := List.mem_filter.mpr ⟨List.mem_append_right _ (List.mem_append_right _ (List.mem_append_right _ (List.mem_append_left _ (List.mem_of_getElem? (i := 119) rfl)))), rfl⟩
theorem wm_3_120 : Cond.methodLink "LinearRowsLaw" 101 y_M_init ∈ wG := List.mem_filter.mpr ⟨List.mem_append_right _ (List.mem_append_right _ (List.mem_append_right _ (List.mem_append_left _ (List.mem_of_getElem? (i := 120) rfl)))), rfl⟩
theorem wm_3_121 : Cond.instanceMethod y_M_init ∈ wG := List.mem_filter.mpr ⟨List.mem_append_right _ (List.mem_append_right _ (List.mem_append_right _ (List.mem_append_left _ (List.mem_of_getElem? (i := 121) rfl)))), rfl⟩
theorem wm_3_122 : Cond.code y_M_init b_M_init 3 none ∈ wG := List.mem_filter.mpr ⟨List.mem_append_right _ (List.mem_append_right _ (List.mem_append_right _ (List.mem_append_left _ (List.mem_of_getElem? (i := 122) rfl)))), rfl⟩
theorem wm_3_123 : Cond.methodLink "LinearRowsModel" 1 ⟨"java/lang/Object", "<init>", "()V"⟩ ∈ wG := List.mem_filter.mpr ⟨List.mem_append_right _ (List.mem_append_right _ (List.mem_append_right _ (List.mem_append_left _ (List.mem_of_getElem? (i := 123) rfl)))), rfl⟩
theorem wm_3_124 : Cond.constantLong "LinearRowsModel" 46 4611686018427387904 ∈ wG := List.mem_filter.mpr ⟨List.mem_append_right _ (List.mem_append_right _ (List.mem_append_right _ (List.mem_append_left _ (List.mem_of_getElem? (i := 124) rfl)))), rfl⟩
theorem wm_3_125 : Cond.fieldLink "LinearRowsModel" 48 "LinearRowsModel" "thrown" "I" ∈ wG := List.mem_filter.mpr ⟨List.mem_append_right _ (List.mem_append_right _ (List.mem_append_right _ (List.mem_append_left _ (List.mem_of_getElem? (i := 125) rfl)))), rfl⟩
theorem wm_3_126 : Cond.fieldLink "LinearRowsModel" 42 "LinearRowsModel" "n" "I" ∈ wG := List.mem_filter.mpr ⟨List.mem_append_right _ (List.mem_append_right _ (List.mem_append_right _ (List.mem_append_left _ (List.mem_of_getElem? (i := 126) rfl)))), rfl⟩
theorem wm_3_127 : Cond.fieldLink "LinearRowsModel" 7 "LinearRowsModel" "rows" "[J" ∈ wG := List.mem_filter.mpr ⟨List.mem_append_right _ (List.mem_append_right _ (List.mem_append_right _ (List.mem_append_left _ (List.mem_of_getElem? (i := 127) rfl)))), rfl⟩
theorem wm_3_128 : Cond.fieldLink "LinearRowsModel" 13 "LinearRowsModel" "isEmpty" "[Z" ∈ wG := List.mem_filter.mpr ⟨List.mem_append_right _ (List.mem_append_right _ (List.mem_append_right _ (List.mem_append_left _ (List.mem_of_getElem? (i := 128) rfl)))), rfl⟩
theorem wm_3_129 : Cond.fieldLink "LinearRowsModel" 17 "LinearRowsModel" "d" "[J" ∈ wG := List.mem_filter.mpr ⟨List.mem_append_right _ (List.mem_append_right _ (List.mem_append_right _ (List.mem_append_left _ (List.mem_of_getElem? (i := 129) rfl)))), rfl⟩
theorem wm_3_130 : Cond.fieldLink "LinearRowsModel" 20 "LinearRowsModel" "other" "[J" ∈ wG := List.mem_filter.mpr ⟨List.mem_append_right _ (List.mem_append_right _ (List.mem_append_right _ (List.mem_append_left _ (List.mem_of_getElem? (i := 130) rfl)))), rfl⟩
theorem wm_3_131 : Cond.fieldLink "LinearRowsModel" 23 "LinearRowsModel" "made" "[J" ∈ wG := List.mem_filter.mpr ⟨List.mem_append_right _ (List.mem_append_right _ (List.mem_append_right _ (List.mem_append_left _ (List.mem_of_getElem? (i := 131) rfl)))), rfl⟩
theorem wm_3_132 : Cond.fieldLink "LinearRowsModel" 26 "LinearRowsModel" "point" "[J" ∈ wG := List.mem_filter.mpr ⟨List.mem_append_right _ (List.mem_append_right _ (List.mem_append_right _ (List.mem_append_left _ (List.mem_of_getElem? (i := 132) rfl)))), rfl⟩
theorem wm_3_133 : Cond.fieldLink "LinearRowsModel" 150 "LinearRowsModel" "needMany" "I" ∈ wG := List.mem_filter.mpr ⟨List.mem_append_right _ (List.mem_append_right _ (List.mem_append_right _ (List.mem_append_left _ (List.mem_of_getElem? (i := 133) rfl)))), rfl⟩
theorem wm_3_134 : Cond.fieldLink "LinearRowsModel" 29 "LinearRowsModel" "needA" "[I" ∈ wG := List.mem_filter.mpr ⟨List.mem_append_right _ (List.mem_append_right _ (List.mem_append_right _ (List.mem_append_left _ (List.mem_of_getElem? (i := 134) rfl)))), rfl⟩
theorem wm_3_135 : Cond.fieldLink "LinearRowsModel" 33 "LinearRowsModel" "needB" "[I" ∈ wG := List.mem_filter.mpr ⟨List.mem_append_right _ (List.mem_append_right _ (List.mem_append_right _ (List.mem_append_left _ (List.mem_of_getElem? (i := 135) rfl)))), rfl⟩
theorem wm_3_136 : Cond.fieldLink "LinearRowsModel" 36 "LinearRowsModel" "needC" "[J" ∈ wG := List.mem_filter.mpr ⟨List.mem_append_right _ (List.mem_append_right _ (List.mem_append_right _ (List.mem_append_left _ (List.mem_of_getElem? (i := 136) rfl)))), rfl⟩
theorem wm_3_137 : Cond.fieldLink "LinearRowsModel" 39 "LinearRowsModel" "isLeft" "[Z" ∈ wG := List.mem_filter.mpr ⟨List.mem_append_right _ (List.mem_append_right _ (List.mem_append_right _ (List.mem_append_left _ (List.mem_of_getElem? (i := 137) rfl)))), rfl⟩
theorem wm_3_138 : Cond.lays "LinearRowsModel" "LinearRowsModel" "thrown" "I" ∈ wG := List.mem_filter.mpr ⟨List.mem_append_right _ (List.mem_append_right _ (List.mem_append_right _ (List.mem_append_left _ (List.mem_of_getElem? (i := 138) rfl)))), rfl⟩
theorem wm_3_139 : Cond.soleField "LinearRowsModel" "thrown" ∈ wG := List.mem_filter.mpr ⟨List.mem_append_right _ (List.mem_append_right _ (List.mem_append_right _ (List.mem_append_left _ (List.mem_of_getElem? (i := 139) rfl)))), rfl⟩
theorem wm_3_140 : Cond.laysFinal "LinearRowsModel" "LinearRowsModel" "n" "I" ∈ wG := List.mem_filter.mpr ⟨List.mem_append_right _ (List.mem_append_right _ (List.mem_append_right _ (List.mem_append_left _ (List.mem_of_getElem? (i := 140) rfl)))), rfl⟩
theorem wm_3_141 : Cond.soleField "LinearRowsModel" "n" ∈ wG := List.mem_filter.mpr ⟨List.mem_append_right _ (List.mem_append_right _ (List.mem_append_right _ (List.mem_append_left _ (List.mem_of_getElem? (i := 141) rfl)))), rfl⟩
theorem wm_3_142 : Cond.laysFinal "LinearRowsModel" "LinearRowsModel" "rows" "[J" ∈ wG := List.mem_filter.mpr ⟨List.mem_append_right _ (List.mem_append_right _ (List.mem_append_right _ (List.mem_append_left _ (List.mem_of_getElem? (i := 142) rfl)))), rfl⟩
theorem wm_3_143 : Cond.soleField "LinearRowsModel" "rows" ∈ wG := List.mem_filter.mpr ⟨List.mem_append_right _ (List.mem_append_right _ (List.mem_append_right _ (List.mem_append_left _ (List.mem_of_getElem? (i := 143) rfl)))), rfl⟩
theorem wm_3_144 : Cond.laysFinal "LinearRowsModel" "LinearRowsModel" "isEmpty" "[Z" ∈ wG := List.mem_filter.mpr ⟨List.mem_append_right _ (List.mem_append_right _ (List.mem_append_right _ (List.mem_append_left _ (List.mem_of_getElem? (i := 144) rfl)))), rfl⟩
theorem wm_3_145 : Cond.soleField "LinearRowsModel" "isEmpty" ∈ wG := List.mem_filter.mpr ⟨List.mem_append_right _ (List.mem_append_right _ (List.mem_append_right _ (List.mem_append_left _ (List.mem_of_getElem? (i := 145) rfl)))), rfl⟩
theorem wm_3_146 : Cond.laysFinal "LinearRowsModel" "LinearRowsModel" "d" "[J" ∈ wG := List.mem_filter.mpr ⟨List.mem_append_right _ (List.mem_append_right _ (List.mem_append_right _ (List.mem_append_left _ (List.mem_of_getElem? (i := 146) rfl)))), rfl⟩
theorem wm_3_147 : Cond.soleField "LinearRowsModel" "d" ∈ wG := List.mem_filter.mpr ⟨List.mem_append_right _ (List.mem_append_right _ (List.mem_append_right _ (List.mem_append_left _ (List.mem_of_getElem? (i := 147) rfl)))), rfl⟩
theorem wm_3_148 : Cond.laysFinal "LinearRowsModel" "LinearRowsModel" "other" "[J" ∈ wG := List.mem_filter.mpr ⟨List.mem_append_right _ (List.mem_append_right _ (List.mem_append_right _ (List.mem_append_left _ (List.mem_of_getElem? (i := 148) rfl)))), rfl⟩
theorem wm_3_149 : Cond.soleField "LinearRowsModel" "other" ∈ wG := List.mem_filter.mpr ⟨List.mem_append_right _ (List.mem_append_right _ (List.mem_append_right _ (List.mem_append_left _ (List.mem_of_getElem? (i := 149) rfl)))), rfl⟩
theorem wm_3_150 : Cond.laysFinal "LinearRowsModel" "LinearRowsModel" "made" "[J" ∈ wG := List.mem_filter.mpr ⟨List.mem_append_right _ (List.mem_append_right _ (List.mem_append_right _ (List.mem_append_left _ (List.mem_of_getElem? (i := 150) rfl)))), rfl⟩
theorem wm_3_151 : Cond.soleField "LinearRowsModel" "made" ∈ wG := List.mem_filter.mpr ⟨List.mem_append_right _ (List.mem_append_right _ (List.mem_append_right _ (List.mem_append_left _ (List.mem_of_getElem? (i := 151) rfl)))), rfl⟩
theorem wm_3_152 : Cond.laysFinal "LinearRowsModel" "LinearRowsModel" "point" "[J" ∈ wG := List.mem_filter.mpr ⟨List.mem_append_right _ (List.mem_append_right _ (List.mem_append_right _ (List.mem_append_left _ (List.mem_of_getElem? (i := 152) rfl)))), rfl⟩
theorem wm_3_153 : Cond.soleField "LinearRowsModel" "point" ∈ wG := List.mem_filter.mpr ⟨List.mem_append_right _ (List.mem_append_right _ (List.mem_append_right _ (List.mem_append_left _ (List.mem_of_getElem? (i := 153) rfl)))), rfl⟩
theorem wm_3_154 : Cond.lays "LinearRowsModel" "LinearRowsModel" "needMany" "I" ∈ wG := List.mem_filter.mpr ⟨List.mem_append_right _ (List.mem_append_right _ (List.mem_append_right _ (List.mem_append_left _ (List.mem_of_getElem? (i := 154) rfl)))), rfl⟩
theorem wm_3_155 : Cond.soleField "LinearRowsModel" "needMany" ∈ wG := List.mem_filter.mpr ⟨List.mem_append_right _ (List.mem_append_right _ (List.mem_append_right _ (List.mem_append_left _ (List.mem_of_getElem? (i := 155) rfl)))), rfl⟩
theorem wm_3_156 : Cond.laysFinal "LinearRowsModel" "LinearRowsModel" "needA" "[I" ∈ wG := List.mem_filter.mpr ⟨List.mem_append_right _ (List.mem_append_right _ (List.mem_append_right _ (List.mem_append_left _ (List.mem_of_getElem? (i := 156) rfl)))), rfl⟩
theorem wm_3_157 : Cond.soleField "LinearRowsModel" "needA" ∈ wG := List.mem_filter.mpr ⟨List.mem_append_right _ (List.mem_append_right _ (List.mem_append_right _ (List.mem_append_left _ (List.mem_of_getElem? (i := 157) rfl)))), rfl⟩
theorem wm_3_158 : Cond.laysFinal "LinearRowsModel" "LinearRowsModel" "needB" "[I" ∈ wG := List.mem_filter.mpr ⟨List.mem_append_right _ (List.mem_append_right _ (List.mem_append_right _ (List.mem_append_left _ (List.mem_of_getElem? (i := 158) rfl)))), rfl⟩
theorem wm_3_159 : Cond.soleField "LinearRowsModel" "needB" ∈ wG := List.mem_filter.mpr ⟨List.mem_append_right _ (List.mem_append_right _ (List.mem_append_right _ (List.mem_append_left _ (List.mem_of_getElem? (i := 159) rfl)))), rfl⟩
theorem wm_3_160 : Cond.laysFinal "LinearRowsModel" "LinearRowsModel" "needC" "[J" ∈ wG := List.mem_filter.mpr ⟨List.mem_append_right _ (List.mem_append_right _ (List.mem_append_right _ (List.mem_append_left _ (List.mem_of_getElem? (i := 160) rfl)))), rfl⟩
theorem wm_3_161 : Cond.soleField "LinearRowsModel" "needC" ∈ wG := List.mem_filter.mpr ⟨List.mem_append_right _ (List.mem_append_right _ (List.mem_append_right _ (List.mem_append_left _ (List.mem_of_getElem? (i := 161) rfl)))), rfl⟩
theorem wm_3_162 : Cond.laysFinal "LinearRowsModel" "LinearRowsModel" "isLeft" "[Z" ∈ wG := List.mem_filter.mpr ⟨List.mem_append_right _ (List.mem_append_right _ (List.mem_append_right _ (List.mem_append_left _ (List.mem_of_getElem? (i := 162) rfl)))), rfl⟩
theorem wm_3_163 : Cond.soleField "LinearRowsModel" "isLeft" ∈ wG := List.mem_filter.mpr ⟨List.mem_append_right _ (List.mem_append_right _ (List.mem_append_right _ (List.mem_append_left _ (List.mem_of_getElem? (i := 163) rfl)))), rfl⟩
theorem wm_3_164 : Cond.superclass "LinearRowsModel" "java/lang/Object" ∈ wG := List.mem_filter.mpr ⟨List.mem_append_right _ (List.mem_append_right _ (List.mem_append_right _ (List.mem_append_left _ (List.mem_of_getElem? (i := 164) rfl)))), rfl⟩
theorem wm_3_165 : Cond.arrayClass FieldType.boolean ∈ wG := List.mem_filter.mpr ⟨List.mem_append_right _ (List.mem_append_right _ (List.mem_append_right _ (List.mem_append_left _ (List.mem_of_getElem? (i := 165) rfl)))), rfl⟩
theorem wm_3_166 : Cond.arrayClass FieldType.int ∈ wG := List.mem_filter.mpr ⟨List.mem_append_right _ (List.mem_append_right _ (List.mem_append_right _ (List.mem_append_left _ (List.mem_of_getElem? (i := 166) rfl)))), rfl⟩
theorem wm_3_167 : Cond.methodLink "LinearRowsLaw" 106 y_M_thrown ∈ wG := List.mem_filter.mpr ⟨List.mem_append_right _ (List.mem_append_right _ (List.mem_append_right _ (List.mem_append_left _ (List.mem_of_getElem? (i := 167) rfl)))), rfl⟩
theorem wm_3_168 : Cond.instanceMethod y_M_thrown ∈ wG := List.mem_filter.mpr ⟨List.mem_append_right _ (List.mem_append_right _ (List.mem_append_right _ (List.mem_append_left _ (List.mem_of_getElem? (i := 168) rfl)))), rfl⟩
theorem wm_3_169 : Cond.selects "LinearRowsModel" y_M_thrown y_M_thrown ∈ wG := List.mem_filter.mpr ⟨List.mem_append_right _ (List.mem_append_right _ (List.mem_append_right _ (List.mem_append_left _ (List.mem_of_getElem? (i := 169) rfl)))), rfl⟩
theorem wm_3_170 : Cond.code y_M_thrown b_M_thrown 1 (some .int) ∈ wG := List.mem_filter.mpr ⟨List.mem_append_right _ (List.mem_append_right _ (List.mem_append_right _ (List.mem_append_left _ (List.mem_of_getElem? (i := 170) rfl)))), rfl⟩
theorem wm_3_171 : Cond.methodLink "LinearRowsLaw" 105 y_M_all ∈ wG := List.mem_filter.mpr ⟨List.mem_append_right _ (List.mem_append_right _ (List.mem_append_right _ (List.mem_append_left _ (List.mem_of_getElem? (i := 171) rfl)))), rfl⟩
theorem wm_3_172 : Cond.instanceMethod y_M_all ∈ wG := List.mem_filter.mpr ⟨List.mem_append_right _ (List.mem_append_right _ (List.mem_append_right _ (List.mem_append_left _ (List.mem_of_getElem? (i := 172) rfl)))), rfl⟩
theorem wm_3_173 : Cond.selects "LinearRowsModel" y_M_all y_M_all ∈ wG := List.mem_filter.mpr ⟨List.mem_append_right _ (List.mem_append_right _ (List.mem_append_right _ (List.mem_append_left _ (List.mem_of_getElem? (i := 173) rfl)))), rfl⟩
theorem wm_3_174 : Cond.code y_M_all b_M_all 2 none ∈ wG := List.mem_filter.mpr ⟨List.mem_append_right _ (List.mem_append_right _ (List.mem_append_right _ (List.mem_append_left _ (List.mem_of_getElem? (i := 174) rfl)))), rfl⟩
theorem wm_3_175 : Cond.methodLink "LinearRowsModel" 83 y_M_isShape ∈ wG := List.mem_filter.mpr ⟨List.mem_append_right _ (List.mem_append_right _ (List.mem_append_right _ (List.mem_append_left _ (List.mem_of_getElem? (i := 175) rfl)))), rfl⟩
theorem wm_3_177 : Cond.instanceMethod y_M_isShape ∈ wG := List.mem_filter.mpr ⟨List.mem_append_right _ (List.mem_append_right _ (List.mem_append_right _ (List.mem_append_left _ (List.mem_of_getElem? (i := 177) rfl)))), rfl⟩
theorem wm_3_178 : Cond.code y_M_isShape b_M_isShape 2 (some .boolean) ∈ wG := List.mem_filter.mpr ⟨List.mem_append_right _ (List.mem_append_right _ (List.mem_append_right _ (List.mem_append_left _ (List.mem_of_getElem? (i := 178) rfl)))), rfl⟩
theorem wm_3_179 : Cond.methodLink "LinearRowsModel" 73 y_M_none ∈ wG := List.mem_filter.mpr ⟨List.mem_append_right _ (List.mem_append_right _ (List.mem_append_right _ (List.mem_append_left _ (List.mem_of_getElem? (i := 179) rfl)))), rfl⟩
theorem wm_3_181 : Cond.instanceMethod y_M_none ∈ wG := List.mem_filter.mpr ⟨List.mem_append_right _ (List.mem_append_right _ (List.mem_append_right _ (List.mem_append_left _ (List.mem_of_getElem? (i := 181) rfl)))), rfl⟩
theorem wm_3_182 : Cond.code y_M_none b_M_none 3 none ∈ wG := List.mem_filter.mpr ⟨List.mem_append_right _ (List.mem_append_right _ (List.mem_append_right _ (List.mem_append_left _ (List.mem_of_getElem? (i := 182) rfl)))), rfl⟩
theorem wm_3_183 : Cond.methodLink "LinearRowsLaw" 115 y_M_row ∈ wG := List.mem_filter.mpr ⟨List.mem_append_right _ (List.mem_append_right _ (List.mem_append_right _ (List.mem_append_left _ (List.mem_of_getElem? (i := 183) rfl)))), rfl⟩
theorem wm_3_184 : Cond.instanceMethod y_M_row ∈ wG := List.mem_filter.mpr ⟨List.mem_append_right _ (List.mem_append_right _ (List.mem_append_right _ (List.mem_append_left _ (List.mem_of_getElem? (i := 184) rfl)))), rfl⟩
theorem wm_3_185 : Cond.selects "LinearRowsModel" y_M_row y_M_row ∈ wG := List.mem_filter.mpr ⟨List.mem_append_right _ (List.mem_append_right _ (List.mem_append_right _ (List.mem_append_left _ (List.mem_of_getElem? (i := 185) rfl)))), rfl⟩
theorem wm_3_186 : Cond.code y_M_row b_M_row 12 (some .int) ∈ wG := List.mem_filter.mpr ⟨List.mem_append_right _ (List.mem_append_right _ (List.mem_append_right _ (List.mem_append_left _ (List.mem_of_getElem? (i := 186) rfl)))), rfl⟩
theorem wm_3_187 : Cond.methodLink "LinearRowsModel" 91 y_M_isTerm ∈ wG := List.mem_filter.mpr ⟨List.mem_append_right _ (List.mem_append_right _ (List.mem_append_right _ (List.mem_append_left _ (List.mem_of_getElem? (i := 187) rfl)))), rfl⟩
theorem wm_3_189 : Cond.instanceMethod y_M_isTerm ∈ wG := List.mem_filter.mpr ⟨List.mem_append_right _ (List.mem_append_right _ (List.mem_append_right _ (List.mem_append_left _ (List.mem_of_getElem? (i := 189) rfl)))), rfl⟩
theorem wm_3_190 : Cond.code y_M_isTerm b_M_isTerm 2 (some .boolean) ∈ wG := List.mem_filter.mpr ⟨List.mem_append_right _ (List.mem_append_right _ (List.mem_append_right _ (List.mem_append_left _ (List.mem_of_getElem? (i := 190) rfl)))), rfl⟩
theorem wm_3_191 : Cond.methodLink "LinearRowsModel" 94 y_M_isSmall ∈ wG := List.mem_filter.mpr ⟨List.mem_append_right _ (List.mem_append_right _ (List.mem_append_right _ (List.mem_append_left _ (List.mem_of_getElem? (i := 191) rfl)))), rfl⟩
theorem wm_3_192 : Cond.static y_M_isSmall ∈ wG := List.mem_filter.mpr ⟨List.mem_append_right _ (List.mem_append_right _ (List.mem_append_right _ (List.mem_append_left _ (List.mem_of_getElem? (i := 192) rfl)))), rfl⟩
theorem wm_3_193 : Cond.code y_M_isSmall b_M_isSmall 2 (some .boolean) ∈ wG := List.mem_filter.mpr ⟨List.mem_append_right _ (List.mem_append_right _ (List.mem_append_right _ (List.mem_append_left _ (List.mem_of_getElem? (i := 193) rfl)))), rfl⟩
theorem wm_3_194 : Cond.constantLong "LinearRowsModel" 87 (-1000000000) ∈ wG := List.mem_filter.mpr ⟨List.mem_append_right _ (List.mem_append_right _ (List.mem_append_right _ (List.mem_append_left _ (List.mem_of_getElem? (i := 194) rfl)))), rfl⟩
theorem wm_3_195 : Cond.constantLong "LinearRowsModel" 89 1000000000 ∈ wG := List.mem_filter.mpr ⟨List.mem_append_right _ (List.mem_append_right _ (List.mem_append_right _ (List.mem_append_left _ (List.mem_of_getElem? (i := 195) rfl)))), rfl⟩
theorem wm_3_196 : Cond.methodLink "LinearRowsModel" 80 y_M_at ∈ wG := List.mem_filter.mpr ⟨List.mem_append_right _ (List.mem_append_right _ (List.mem_append_right _ (List.mem_append_left _ (List.mem_of_getElem? (i := 196) rfl)))), rfl⟩
theorem wm_3_197 : Cond.static y_M_at ∈ wG := List.mem_filter.mpr ⟨List.mem_append_right _ (List.mem_append_right _ (List.mem_append_right _ (List.mem_append_left _ (List.mem_of_getElem? (i := 197) rfl)))), rfl⟩
theorem wm_3_198 : Cond.code y_M_at b_M_at 1 (some .int) ∈ wG := List.mem_filter.mpr ⟨List.mem_append_right _ (List.mem_append_right _ (List.mem_append_right _ (List.mem_append_left _ (List.mem_of_getElem? (i := 198) rfl)))), rfl⟩
theorem wm_3_199 : Cond.methodLink "LinearRowsModel" 61 y_M_half ∈ wG := List.mem_filter.mpr ⟨List.mem_append_right _ (List.mem_append_right _ (List.mem_append_right _ (List.mem_append_left _ (List.mem_of_getElem? (i := 199) rfl)))), rfl⟩
theorem wm_3_200 : Cond.static y_M_half ∈ wG := List.mem_filter.mpr ⟨List.mem_append_right _ (List.mem_append_right _ (List.mem_append_right _ (List.mem_append_left _ (List.mem_of_getElem? (i := 200) rfl)))), rfl⟩
theorem wm_3_201 : Cond.code y_M_half b_M_half 2 (some .long) ∈ wG := List.mem_filter.mpr ⟨List.mem_append_right _ (List.mem_append_right _ (List.mem_append_right _ (List.mem_append_left _ (List.mem_of_getElem? (i := 201) rfl)))), rfl⟩
theorem wm_3_202 : Cond.constantLong "LinearRowsModel" 51 2 ∈ wG := List.mem_filter.mpr ⟨List.mem_append_right _ (List.mem_append_right _ (List.mem_append_right _ (List.mem_append_left _ (List.mem_of_getElem? (i := 202) rfl)))), rfl⟩
theorem wm_3_203 : Cond.methodLink "LinearRowsModel" 98 y_M_closeShape ∈ wG := List.mem_filter.mpr ⟨List.mem_append_right _ (List.mem_append_right _ (List.mem_append_right _ (List.mem_append_left _ (List.mem_of_getElem? (i := 203) rfl)))), rfl⟩
theorem wm_3_205 : Cond.instanceMethod y_M_closeShape ∈ wG := List.mem_filter.mpr ⟨List.mem_append_right _ (List.mem_append_right _ (List.mem_append_right _ (List.mem_append_left _ (List.mem_of_getElem? (i := 205) rfl)))), rfl⟩
theorem wm_3_206 : Cond.code y_M_closeShape b_M_closeShape 2 (some .boolean) ∈ wG := List.mem_filter.mpr ⟨List.mem_append_right _ (List.mem_append_right _ (List.mem_append_right _ (List.mem_append_left _ (List.mem_of_getElem? (i := 206) rfl)))), rfl⟩
theorem wm_3_207 : Cond.methodLink "LinearRowsModel" 77 y_M_loadRows ∈ wG := List.mem_filter.mpr ⟨List.mem_append_right _ (List.mem_append_right _ (List.mem_append_right _ (List.mem_append_left _ (List.mem_of_getElem? (i := 207) rfl)))), rfl⟩
theorem wm_3_209 : Cond.instanceMethod y_M_loadRows ∈ wG := List.mem_filter.mpr ⟨List.mem_append_right _ (List.mem_append_right _ (List.mem_append_right _ (List.mem_append_left _ (List.mem_of_getElem? (i := 209) rfl)))), rfl⟩
theorem wm_3_210 : Cond.code y_M_loadRows b_M_loadRows 3 none ∈ wG := List.mem_filter.mpr ⟨List.mem_append_right _ (List.mem_append_right _ (List.mem_append_right _ (List.mem_append_left _ (List.mem_of_getElem? (i := 210) rfl)))), rfl⟩
theorem wm_3_211 : Cond.methodLink "LinearRowsModel" 69 y_M_close ∈ wG := List.mem_filter.mpr ⟨List.mem_append_right _ (List.mem_append_right _ (List.mem_append_right _ (List.mem_append_left _ (List.mem_of_getElem? (i := 211) rfl)))), rfl⟩
theorem wm_3_213 : Cond.instanceMethod y_M_close ∈ wG := List.mem_filter.mpr ⟨List.mem_append_right _ (List.mem_append_right _ (List.mem_append_right _ (List.mem_append_left _ (List.mem_of_getElem? (i := 213) rfl)))), rfl⟩
theorem wm_3_214 : Cond.code y_M_close b_M_close 8 (some .boolean) ∈ wG := List.mem_filter.mpr ⟨List.mem_append_right _ (List.mem_append_right _ (List.mem_append_right _ (List.mem_append_left _ (List.mem_of_getElem? (i := 214) rfl)))), rfl⟩
theorem wm_3_215 : Cond.methodLink "LinearRowsModel" 53 y_M_opposite ∈ wG := List.mem_filter.mpr ⟨List.mem_append_right _ (List.mem_append_right _ (List.mem_append_right _ (List.mem_append_left _ (List.mem_of_getElem? (i := 215) rfl)))), rfl⟩
theorem wm_3_216 : Cond.static y_M_opposite ∈ wG := List.mem_filter.mpr ⟨List.mem_append_right _ (List.mem_append_right _ (List.mem_append_right _ (List.mem_append_left _ (List.mem_of_getElem? (i := 216) rfl)))), rfl⟩
theorem wm_3_217 : Cond.code y_M_opposite b_M_opposite 1 (some .int) ∈ wG := List.mem_filter.mpr ⟨List.mem_append_right _ (List.mem_append_right _ (List.mem_append_right _ (List.mem_append_left _ (List.mem_of_getElem? (i := 217) rfl)))), rfl⟩
theorem wm_3_218 : Cond.methodLink "LinearRowsModel" 57 y_M_sum ∈ wG := List.mem_filter.mpr ⟨List.mem_append_right _ (List.mem_append_right _ (List.mem_append_right _ (List.mem_append_left _ (List.mem_of_getElem? (i := 218) rfl)))), rfl⟩
theorem wm_3_219 : Cond.static y_M_sum ∈ wG := List.mem_filter.mpr ⟨List.mem_append_right _ (List.mem_append_right _ (List.mem_append_right _ (List.mem_append_left _ (List.mem_of_getElem? (i := 219) rfl)))), rfl⟩
theorem wm_3_220 : Cond.code y_M_sum b_M_sum 4 (some .long) ∈ wG := List.mem_filter.mpr ⟨List.mem_append_right _ (List.mem_append_right _ (List.mem_append_right _ (List.mem_append_left _ (List.mem_of_getElem? (i := 220) rfl)))), rfl⟩
theorem wm_3_221 : Cond.methodLink "LinearRowsModel" 101 y_M_isFar ∈ wG := List.mem_filter.mpr ⟨List.mem_append_right _ (List.mem_append_right _ (List.mem_append_right _ (List.mem_append_left _ (List.mem_of_getElem? (i := 221) rfl)))), rfl⟩
theorem wm_3_223 : Cond.instanceMethod y_M_isFar ∈ wG := List.mem_filter.mpr ⟨List.mem_append_right _ (List.mem_append_right _ (List.mem_append_right _ (List.mem_append_left _ (List.mem_of_getElem? (i := 223) rfl)))), rfl⟩
theorem wm_3_224 : Cond.code y_M_isFar b_M_isFar 7 (some .boolean) ∈ wG := List.mem_filter.mpr ⟨List.mem_append_right _ (List.mem_append_right _ (List.mem_append_right _ (List.mem_append_left _ (List.mem_of_getElem? (i := 224) rfl)))), rfl⟩
theorem wm_3_225 : Cond.constantLong "LinearRowsModel" 65 1000000000000000 ∈ wG := List.mem_filter.mpr ⟨List.mem_append_right _ (List.mem_append_right _ (List.mem_append_right _ (List.mem_append_left _ (List.mem_of_getElem? (i := 225) rfl)))), rfl⟩
theorem wm_3_226 : Cond.constantLong "LinearRowsModel" 67 (-1000000000000000) ∈ wG := List.mem_filter.mpr ⟨List.mem_append_right _ (List.mem_append_right _ (List.mem_append_right _ (List.mem_append_left _ (List.mem_of_getElem? (i := 226) rfl)))), rfl⟩
theorem wm_3_227 : Cond.methodLink "LinearRowsLaw" 119 y_M_bound ∈ wG := List.mem_filter.mpr ⟨List.mem_append_right _ (List.mem_append_right _ (List.mem_append_right _ (List.mem_append_left _ (List.mem_of_getElem? (i := 227) rfl)))), rfl⟩
theorem wm_3_228 : Cond.instanceMethod y_M_bound ∈ wG := List.mem_filter.mpr ⟨List.mem_append_right _ (List.mem_append_right _ (List.mem_append_right _ (List.mem_append_left _ (List.mem_of_getElem? (i := 228) rfl)))), rfl⟩
theorem wm_3_229 : Cond.selects "LinearRowsModel" y_M_bound y_M_bound ∈ wG := List.mem_filter.mpr ⟨List.mem_append_right _ (List.mem_append_right _ (List.mem_append_right _ (List.mem_append_left _ (List.mem_of_getElem? (i := 229) rfl)))), rfl⟩
theorem wm_3_230 : Cond.code y_M_bound b_M_bound 4 (some .long) ∈ wG := List.mem_filter.mpr ⟨List.mem_append_right _ (List.mem_append_right _ (List.mem_append_right _ (List.mem_append_left _ (List.mem_of_getElem? (i := 230) rfl)))), rfl⟩
theorem wm_3_231 : Cond.methodLink "LinearRowsModel" 104 y_M_boundOf ∈ wG := List.mem_filter.mpr ⟨List.mem_append_right _ (List.mem_append_right _ (List.mem_append_right _ (List.mem_append_left _ (List.mem_of_getElem? (i := 231) rfl)))), rfl⟩
theorem wm_3_233 : Cond.instanceMethod y_M_boundOf ∈ wG := List.mem_filter.mpr ⟨List.mem_append_right _ (List.mem_append_right _ (List.mem_append_right _ (List.mem_append_left _ (List.mem_of_getElem? (i := 233) rfl)))), rfl⟩
theorem wm_3_234 : Cond.code y_M_boundOf b_M_boundOf 5 (some .long) ∈ wG := List.mem_filter.mpr ⟨List.mem_append_right _ (List.mem_append_right _ (List.mem_append_right _ (List.mem_append_left _ (List.mem_of_getElem? (i := 234) rfl)))), rfl⟩
theorem wm_3_235 : Cond.constantLong "LinearRowsModel" 108 (-4611686018427387904) ∈ wG := List.mem_filter.mpr ⟨List.mem_append_right _ (List.mem_append_right _ (List.mem_append_right _ (List.mem_append_left _ (List.mem_of_getElem? (i := 235) rfl)))), rfl⟩
theorem wm_3_236 : Cond.methodLink "LinearRowsLaw" 122 y_M_kept ∈ wG := List.mem_filter.mpr ⟨List.mem_append_right _ (List.mem_append_right _ (List.mem_append_right _ (List.mem_append_left _ (List.mem_of_getElem? (i := 236) rfl)))), rfl⟩
theorem wm_3_237 : Cond.instanceMethod y_M_kept ∈ wG := List.mem_filter.mpr ⟨List.mem_append_right _ (List.mem_append_right _ (List.mem_append_right _ (List.mem_append_left _ (List.mem_of_getElem? (i := 237) rfl)))), rfl⟩
theorem wm_3_238 : Cond.selects "LinearRowsModel" y_M_kept y_M_kept ∈ wG := List.mem_filter.mpr ⟨List.mem_append_right _ (List.mem_append_right _ (List.mem_append_right _ (List.mem_append_left _ (List.mem_of_getElem? (i := 238) rfl)))), rfl⟩
theorem wm_3_239 : Cond.code y_M_kept b_M_kept 4 (some .long) ∈ wG := List.mem_filter.mpr ⟨List.mem_append_right _ (List.mem_append_right _ (List.mem_append_right _ (List.mem_append_left _ (List.mem_of_getElem? (i := 239) rfl)))), rfl⟩
theorem wm_4_0 : Cond.methodLink "LinearRowsLaw" 125 y_M_meet ∈ wG := List.mem_filter.mpr ⟨List.mem_append_right _ (List.mem_append_right _ (List.mem_append_right _ (List.mem_append_right _ (List.mem_of_getElem? (i := 0) rfl)))), rfl⟩
theorem wm_4_1 : Cond.instanceMethod y_M_meet ∈ wG := List.mem_filter.mpr ⟨List.mem_append_right _ (List.mem_append_right _ (List.mem_append_right _ (List.mem_append_right _ (List.mem_of_getElem? (i := 1) rfl)))), rfl⟩
theorem wm_4_2 : Cond.selects "LinearRowsModel" y_M_meet y_M_meet ∈ wG := List.mem_filter.mpr ⟨List.mem_append_right _ (List.mem_append_right _ (List.mem_append_right _ (List.mem_append_right _ (List.mem_of_getElem? (i := 2) rfl)))), rfl⟩
theorem wm_4_3 : Cond.code y_M_meet b_M_meet 5 (some .int) ∈ wG := List.mem_filter.mpr ⟨List.mem_append_right _ (List.mem_append_right _ (List.mem_append_right _ (List.mem_append_right _ (List.mem_of_getElem? (i := 3) rfl)))), rfl⟩
theorem wm_4_4 : Cond.methodLink "LinearRowsModel" 110 y_M_areShapes ∈ wG := List.mem_filter.mpr ⟨List.mem_append_right _ (List.mem_append_right _ (List.mem_append_right _ (List.mem_append_right _ (List.mem_of_getElem? (i := 4) rfl)))), rfl⟩
theorem wm_4_6 : Cond.instanceMethod y_M_areShapes ∈ wG := List.mem_filter.mpr ⟨List.mem_append_right _ (List.mem_append_right _ (List.mem_append_right _ (List.mem_append_right _ (List.mem_of_getElem? (i := 6) rfl)))), rfl⟩
theorem wm_4_7 : Cond.code y_M_areShapes b_M_areShapes 4 (some .boolean) ∈ wG := List.mem_filter.mpr ⟨List.mem_append_right _ (List.mem_append_right _ (List.mem_append_right _ (List.mem_append_right _ (List.mem_of_getElem? (i := 7) rfl)))), rfl⟩
theorem wm_4_8 : Cond.methodLink "LinearRowsModel" 114 y_M_keepClosed ∈ wG := List.mem_filter.mpr ⟨List.mem_append_right _ (List.mem_append_right _ (List.mem_append_right _ (List.mem_append_right _ (List.mem_of_getElem? (i := 8) rfl)))), rfl⟩
theorem wm_4_10 : Cond.instanceMethod y_M_keepClosed ∈ wG := List.mem_filter.mpr ⟨List.mem_append_right _ (List.mem_append_right _ (List.mem_append_right _ (List.mem_append_right _ (List.mem_of_getElem? (i := 10) rfl)))), rfl⟩
theorem wm_4_11 : Cond.code y_M_keepClosed b_M_keepClosed 7 (some .int) ∈ wG := List.mem_filter.mpr ⟨List.mem_append_right _ (List.mem_append_right _ (List.mem_append_right _ (List.mem_append_right _ (List.mem_of_getElem? (i := 11) rfl)))), rfl⟩
theorem wm_4_12 : Cond.methodLink "LinearRowsModel" 118 y_M_copyTable ∈ wG := List.mem_filter.mpr ⟨List.mem_append_right _ (List.mem_append_right _ (List.mem_append_right _ (List.mem_append_right _ (List.mem_of_getElem? (i := 12) rfl)))), rfl⟩
theorem wm_4_14 : Cond.instanceMethod y_M_copyTable ∈ wG := List.mem_filter.mpr ⟨List.mem_append_right _ (List.mem_append_right _ (List.mem_append_right _ (List.mem_append_right _ (List.mem_of_getElem? (i := 14) rfl)))), rfl⟩
theorem wm_4_15 : Cond.code y_M_copyTable b_M_copyTable 3 none ∈ wG := List.mem_filter.mpr ⟨List.mem_append_right _ (List.mem_append_right _ (List.mem_append_right _ (List.mem_append_right _ (List.mem_of_getElem? (i := 15) rfl)))), rfl⟩
theorem wm_4_16 : Cond.methodLink "LinearRowsLaw" 128 y_M_join ∈ wG := List.mem_filter.mpr ⟨List.mem_append_right _ (List.mem_append_right _ (List.mem_append_right _ (List.mem_append_right _ (List.mem_of_getElem? (i := 16) rfl)))), rfl⟩
theorem wm_4_17 : Cond.instanceMethod y_M_join ∈ wG := List.mem_filter.mpr ⟨List.mem_append_right _ (List.mem_append_right _ (List.mem_append_right _ (List.mem_append_right _ (List.mem_of_getElem? (i := 17) rfl)))), rfl⟩
theorem wm_4_18 : Cond.selects "LinearRowsModel" y_M_join y_M_join ∈ wG := List.mem_filter.mpr ⟨List.mem_append_right _ (List.mem_append_right _ (List.mem_append_right _ (List.mem_append_right _ (List.mem_of_getElem? (i := 18) rfl)))), rfl⟩
theorem wm_4_19 : Cond.code y_M_join b_M_join 7 (some .int) ∈ wG := List.mem_filter.mpr ⟨List.mem_append_right _ (List.mem_append_right _ (List.mem_append_right _ (List.mem_append_right _ (List.mem_of_getElem? (i := 19) rfl)))), rfl⟩
theorem wm_4_20 : Cond.methodLink "LinearRowsLaw" 131 y_M_widen ∈ wG := List.mem_filter.mpr ⟨List.mem_append_right _ (List.mem_append_right _ (List.mem_append_right _ (List.mem_append_right _ (List.mem_of_getElem? (i := 20) rfl)))), rfl⟩
theorem wm_4_21 : Cond.instanceMethod y_M_widen ∈ wG := List.mem_filter.mpr ⟨List.mem_append_right _ (List.mem_append_right _ (List.mem_append_right _ (List.mem_append_right _ (List.mem_of_getElem? (i := 21) rfl)))), rfl⟩
theorem wm_4_22 : Cond.selects "LinearRowsModel" y_M_widen y_M_widen ∈ wG := List.mem_filter.mpr ⟨List.mem_append_right _ (List.mem_append_right _ (List.mem_append_right _ (List.mem_append_right _ (List.mem_of_getElem? (i := 22) rfl)))), rfl⟩
theorem wm_4_23 : Cond.code y_M_widen b_M_widen 11 (some .int) ∈ wG := List.mem_filter.mpr ⟨List.mem_append_right _ (List.mem_append_right _ (List.mem_append_right _ (List.mem_append_right _ (List.mem_of_getElem? (i := 23) rfl)))), rfl⟩
theorem wm_4_24 : Cond.methodLink "LinearRowsModel" 122 y_M_copyRows ∈ wG := List.mem_filter.mpr ⟨List.mem_append_right _ (List.mem_append_right _ (List.mem_append_right _ (List.mem_append_right _ (List.mem_of_getElem? (i := 24) rfl)))), rfl⟩
theorem wm_4_26 : Cond.instanceMethod y_M_copyRows ∈ wG := List.mem_filter.mpr ⟨List.mem_append_right _ (List.mem_append_right _ (List.mem_append_right _ (List.mem_append_right _ (List.mem_of_getElem? (i := 26) rfl)))), rfl⟩
theorem wm_4_27 : Cond.code y_M_copyRows b_M_copyRows 4 none ∈ wG := List.mem_filter.mpr ⟨List.mem_append_right _ (List.mem_append_right _ (List.mem_append_right _ (List.mem_append_right _ (List.mem_of_getElem? (i := 27) rfl)))), rfl⟩
theorem wm_4_28 : Cond.methodLink "LinearRowsModel" 126 y_M_closeMade ∈ wG := List.mem_filter.mpr ⟨List.mem_append_right _ (List.mem_append_right _ (List.mem_append_right _ (List.mem_append_right _ (List.mem_of_getElem? (i := 28) rfl)))), rfl⟩
theorem wm_4_30 : Cond.instanceMethod y_M_closeMade ∈ wG := List.mem_filter.mpr ⟨List.mem_append_right _ (List.mem_append_right _ (List.mem_append_right _ (List.mem_append_right _ (List.mem_of_getElem? (i := 30) rfl)))), rfl⟩
theorem wm_4_31 : Cond.code y_M_closeMade b_M_closeMade 5 (some .boolean) ∈ wG := List.mem_filter.mpr ⟨List.mem_append_right _ (List.mem_append_right _ (List.mem_append_right _ (List.mem_append_right _ (List.mem_of_getElem? (i := 31) rfl)))), rfl⟩
theorem wm_4_32 : Cond.methodLink "LinearRowsModel" 129 y_M_keepMade ∈ wG := List.mem_filter.mpr ⟨List.mem_append_right _ (List.mem_append_right _ (List.mem_append_right _ (List.mem_append_right _ (List.mem_of_getElem? (i := 32) rfl)))), rfl⟩
theorem wm_4_34 : Cond.instanceMethod y_M_keepMade ∈ wG := List.mem_filter.mpr ⟨List.mem_append_right _ (List.mem_append_right _ (List.mem_append_right _ (List.mem_append_right _ (List.mem_of_getElem? (i := 34) rfl)))), rfl⟩
theorem wm_4_35 : Cond.code y_M_keepMade b_M_keepMade 4 none ∈ wG := List.mem_filter.mpr ⟨List.mem_append_right _ (List.mem_append_right _ (List.mem_append_right _ (List.mem_append_right _ (List.mem_of_getElem? (i := 35) rfl)))), rfl⟩
theorem wm_4_36 : Cond.methodLink "LinearRowsLaw" 134 y_M_narrow ∈ wG := List.mem_filter.mpr ⟨List.mem_append_right _ (List.mem_append_right _ (List.mem_append_right _ (List.mem_append_right _ (List.mem_of_getElem? (i := 36) rfl)))), rfl⟩
theorem wm_4_37 : Cond.instanceMethod y_M_narrow ∈ wG := List.mem_filter.mpr ⟨List.mem_append_right _ (List.mem_append_right _ (List.mem_append_right _ (List.mem_append_right _ (List.mem_of_getElem? (i := 37) rfl)))), rfl⟩
theorem wm_4_38 : Cond.selects "LinearRowsModel" y_M_narrow y_M_narrow ∈ wG := List.mem_filter.mpr ⟨List.mem_append_right _ (List.mem_append_right _ (List.mem_append_right _ (List.mem_append_right _ (List.mem_of_getElem? (i := 38) rfl)))), rfl⟩
theorem wm_4_39 : Cond.code y_M_narrow b_M_narrow 12 (some .int) ∈ wG := List.mem_filter.mpr ⟨List.mem_append_right _ (List.mem_append_right _ (List.mem_append_right _ (List.mem_append_right _ (List.mem_of_getElem? (i := 39) rfl)))), rfl⟩
theorem wm_4_40 : Cond.methodLink "LinearRowsLaw" 138 y_M_copy ∈ wG := List.mem_filter.mpr ⟨List.mem_append_right _ (List.mem_append_right _ (List.mem_append_right _ (List.mem_append_right _ (List.mem_of_getElem? (i := 40) rfl)))), rfl⟩
theorem wm_4_41 : Cond.instanceMethod y_M_copy ∈ wG := List.mem_filter.mpr ⟨List.mem_append_right _ (List.mem_append_right _ (List.mem_append_right _ (List.mem_append_right _ (List.mem_of_getElem? (i := 41) rfl)))), rfl⟩
theorem wm_4_42 : Cond.selects "LinearRowsModel" y_M_copy y_M_copy ∈ wG := List.mem_filter.mpr ⟨List.mem_append_right _ (List.mem_append_right _ (List.mem_append_right _ (List.mem_append_right _ (List.mem_of_getElem? (i := 42) rfl)))), rfl⟩
theorem wm_4_43 : Cond.code y_M_copy b_M_copy 3 none ∈ wG := List.mem_filter.mpr ⟨List.mem_append_right _ (List.mem_append_right _ (List.mem_append_right _ (List.mem_append_right _ (List.mem_of_getElem? (i := 43) rfl)))), rfl⟩
theorem wm_4_44 : Cond.methodLink "LinearRowsLaw" 141 y_M_set ∈ wG := List.mem_filter.mpr ⟨List.mem_append_right _ (List.mem_append_right _ (List.mem_append_right _ (List.mem_append_right _ (List.mem_of_getElem? (i := 44) rfl)))), rfl⟩
theorem wm_4_45 : Cond.instanceMethod y_M_set ∈ wG := List.mem_filter.mpr ⟨List.mem_append_right _ (List.mem_append_right _ (List.mem_append_right _ (List.mem_append_right _ (List.mem_of_getElem? (i := 45) rfl)))), rfl⟩
theorem wm_4_46 : Cond.selects "LinearRowsModel" y_M_set y_M_set ∈ wG := List.mem_filter.mpr ⟨List.mem_append_right _ (List.mem_append_right _ (List.mem_append_right _ (List.mem_append_right _ (List.mem_of_getElem? (i := 46) rfl)))), rfl⟩
theorem wm_4_47 : Cond.code y_M_set b_M_set 7 (some .int) ∈ wG := List.mem_filter.mpr ⟨List.mem_append_right _ (List.mem_append_right _ (List.mem_append_right _ (List.mem_append_right _ (List.mem_of_getElem? (i := 47) rfl)))), rfl⟩
theorem wm_4_48 : Cond.methodLink "LinearRowsModel" 132 y_M_isName ∈ wG := List.mem_filter.mpr ⟨List.mem_append_right _ (List.mem_append_right _ (List.mem_append_right _ (List.mem_append_right _ (List.mem_of_getElem? (i := 48) rfl)))), rfl⟩
theorem wm_4_50 : Cond.instanceMethod y_M_isName ∈ wG := List.mem_filter.mpr ⟨List.mem_append_right _ (List.mem_append_right _ (List.mem_append_right _ (List.mem_append_right _ (List.mem_of_getElem? (i := 50) rfl)))), rfl⟩
theorem wm_4_51 : Cond.code y_M_isName b_M_isName 2 (some .boolean) ∈ wG := List.mem_filter.mpr ⟨List.mem_append_right _ (List.mem_append_right _ (List.mem_append_right _ (List.mem_append_right _ (List.mem_of_getElem? (i := 51) rfl)))), rfl⟩
theorem wm_4_52 : Cond.methodLink "LinearRowsModel" 135 y_M_turn ∈ wG := List.mem_filter.mpr ⟨List.mem_append_right _ (List.mem_append_right _ (List.mem_append_right _ (List.mem_append_right _ (List.mem_of_getElem? (i := 52) rfl)))), rfl⟩
theorem wm_4_54 : Cond.instanceMethod y_M_turn ∈ wG := List.mem_filter.mpr ⟨List.mem_append_right _ (List.mem_append_right _ (List.mem_append_right _ (List.mem_append_right _ (List.mem_of_getElem? (i := 54) rfl)))), rfl⟩
theorem wm_4_55 : Cond.code y_M_turn b_M_turn 12 none ∈ wG := List.mem_filter.mpr ⟨List.mem_append_right _ (List.mem_append_right _ (List.mem_append_right _ (List.mem_append_right _ (List.mem_of_getElem? (i := 55) rfl)))), rfl⟩
theorem wm_4_56 : Cond.methodLink "LinearRowsModel" 139 y_M_drop ∈ wG := List.mem_filter.mpr ⟨List.mem_append_right _ (List.mem_append_right _ (List.mem_append_right _ (List.mem_append_right _ (List.mem_of_getElem? (i := 56) rfl)))), rfl⟩
theorem wm_4_58 : Cond.instanceMethod y_M_drop ∈ wG := List.mem_filter.mpr ⟨List.mem_append_right _ (List.mem_append_right _ (List.mem_append_right _ (List.mem_append_right _ (List.mem_of_getElem? (i := 58) rfl)))), rfl⟩
theorem wm_4_59 : Cond.code y_M_drop b_M_drop 4 none ∈ wG := List.mem_filter.mpr ⟨List.mem_append_right _ (List.mem_append_right _ (List.mem_append_right _ (List.mem_append_right _ (List.mem_of_getElem? (i := 59) rfl)))), rfl⟩
theorem wm_4_60 : Cond.methodLink "LinearRowsModel" 142 y_M_addRow ∈ wG := List.mem_filter.mpr ⟨List.mem_append_right _ (List.mem_append_right _ (List.mem_append_right _ (List.mem_append_right _ (List.mem_of_getElem? (i := 60) rfl)))), rfl⟩
theorem wm_4_62 : Cond.instanceMethod y_M_addRow ∈ wG := List.mem_filter.mpr ⟨List.mem_append_right _ (List.mem_append_right _ (List.mem_append_right _ (List.mem_append_right _ (List.mem_of_getElem? (i := 62) rfl)))), rfl⟩
theorem wm_4_63 : Cond.code y_M_addRow b_M_addRow 9 none ∈ wG := List.mem_filter.mpr ⟨List.mem_append_right _ (List.mem_append_right _ (List.mem_append_right _ (List.mem_append_right _ (List.mem_of_getElem? (i := 63) rfl)))), rfl⟩
theorem wm_4_64 : Cond.methodLink "LinearRowsLaw" 145 y_M_forget ∈ wG := List.mem_filter.mpr ⟨List.mem_append_right _ (List.mem_append_right _ (List.mem_append_right _ (List.mem_append_right _ (List.mem_of_getElem? (i := 64) rfl)))), rfl⟩
theorem wm_4_65 : Cond.instanceMethod y_M_forget ∈ wG := List.mem_filter.mpr ⟨List.mem_append_right _ (List.mem_append_right _ (List.mem_append_right _ (List.mem_append_right _ (List.mem_of_getElem? (i := 65) rfl)))), rfl⟩
theorem wm_4_66 : Cond.selects "LinearRowsModel" y_M_forget y_M_forget ∈ wG := List.mem_filter.mpr ⟨List.mem_append_right _ (List.mem_append_right _ (List.mem_append_right _ (List.mem_append_right _ (List.mem_of_getElem? (i := 66) rfl)))), rfl⟩
theorem wm_4_67 : Cond.code y_M_forget b_M_forget 3 (some .int) ∈ wG := List.mem_filter.mpr ⟨List.mem_append_right _ (List.mem_append_right _ (List.mem_append_right _ (List.mem_append_right _ (List.mem_of_getElem? (i := 67) rfl)))), rfl⟩
theorem wm_4_68 : Cond.methodLink "LinearRowsLaw" 148 y_M_within ∈ wG := List.mem_filter.mpr ⟨List.mem_append_right _ (List.mem_append_right _ (List.mem_append_right _ (List.mem_append_right _ (List.mem_of_getElem? (i := 68) rfl)))), rfl⟩
theorem wm_4_69 : Cond.instanceMethod y_M_within ∈ wG := List.mem_filter.mpr ⟨List.mem_append_right _ (List.mem_append_right _ (List.mem_append_right _ (List.mem_append_right _ (List.mem_of_getElem? (i := 69) rfl)))), rfl⟩
theorem wm_4_70 : Cond.selects "LinearRowsModel" y_M_within y_M_within ∈ wG := List.mem_filter.mpr ⟨List.mem_append_right _ (List.mem_append_right _ (List.mem_append_right _ (List.mem_append_right _ (List.mem_of_getElem? (i := 70) rfl)))), rfl⟩
theorem wm_4_71 : Cond.code y_M_within b_M_within 10 (some .boolean) ∈ wG := List.mem_filter.mpr ⟨List.mem_append_right _ (List.mem_append_right _ (List.mem_append_right _ (List.mem_append_right _ (List.mem_of_getElem? (i := 71) rfl)))), rfl⟩
theorem wm_4_72 : Cond.methodLink "LinearRowsLaw" 152 y_M_put ∈ wG := List.mem_filter.mpr ⟨List.mem_append_right _ (List.mem_append_right _ (List.mem_append_right _ (List.mem_append_right _ (List.mem_of_getElem? (i := 72) rfl)))), rfl⟩
theorem wm_4_73 : Cond.instanceMethod y_M_put ∈ wG := List.mem_filter.mpr ⟨List.mem_append_right _ (List.mem_append_right _ (List.mem_append_right _ (List.mem_append_right _ (List.mem_of_getElem? (i := 73) rfl)))), rfl⟩
theorem wm_4_74 : Cond.selects "LinearRowsModel" y_M_put y_M_put ∈ wG := List.mem_filter.mpr ⟨List.mem_append_right _ (List.mem_append_right _ (List.mem_append_right _ (List.mem_append_right _ (List.mem_of_getElem? (i := 74) rfl)))), rfl⟩
theorem wm_4_75 : Cond.code y_M_put b_M_put 6 (some .long) ∈ wG := List.mem_filter.mpr ⟨List.mem_append_right _ (List.mem_append_right _ (List.mem_append_right _ (List.mem_append_right _ (List.mem_of_getElem? (i := 75) rfl)))), rfl⟩
theorem wm_4_76 : Cond.methodLink "LinearRowsLaw" 156 y_M_point ∈ wG := List.mem_filter.mpr ⟨List.mem_append_right _ (List.mem_append_right _ (List.mem_append_right _ (List.mem_append_right _ (List.mem_of_getElem? (i := 76) rfl)))), rfl⟩
theorem wm_4_77 : Cond.instanceMethod y_M_point ∈ wG := List.mem_filter.mpr ⟨List.mem_append_right _ (List.mem_append_right _ (List.mem_append_right _ (List.mem_append_right _ (List.mem_of_getElem? (i := 77) rfl)))), rfl⟩
theorem wm_4_78 : Cond.selects "LinearRowsModel" y_M_point y_M_point ∈ wG := List.mem_filter.mpr ⟨List.mem_append_right _ (List.mem_append_right _ (List.mem_append_right _ (List.mem_append_right _ (List.mem_of_getElem? (i := 78) rfl)))), rfl⟩
theorem wm_4_79 : Cond.code y_M_point b_M_point 2 (some .long) ∈ wG := List.mem_filter.mpr ⟨List.mem_append_right _ (List.mem_append_right _ (List.mem_append_right _ (List.mem_append_right _ (List.mem_of_getElem? (i := 79) rfl)))), rfl⟩
theorem wm_4_80 : Cond.methodLink "LinearRowsLaw" 159 y_M_has ∈ wG := List.mem_filter.mpr ⟨List.mem_append_right _ (List.mem_append_right _ (List.mem_append_right _ (List.mem_append_right _ (List.mem_of_getElem? (i := 80) rfl)))), rfl⟩
theorem wm_4_81 : Cond.instanceMethod y_M_has ∈ wG := List.mem_filter.mpr ⟨List.mem_append_right _ (List.mem_append_right _ (List.mem_append_right _ (List.mem_append_right _ (List.mem_of_getElem? (i := 81) rfl)))), rfl⟩
theorem wm_4_82 : Cond.selects "LinearRowsModel" y_M_has y_M_has ∈ wG := List.mem_filter.mpr ⟨List.mem_append_right _ (List.mem_append_right _ (List.mem_append_right _ (List.mem_append_right _ (List.mem_of_getElem? (i := 82) rfl)))), rfl⟩
theorem wm_4_83 : Cond.code y_M_has b_M_has 7 (some .boolean) ∈ wG := List.mem_filter.mpr ⟨List.mem_append_right _ (List.mem_append_right _ (List.mem_append_right _ (List.mem_append_right _ (List.mem_of_getElem? (i := 83) rfl)))), rfl⟩
theorem wm_4_84 : Cond.methodLink "LinearRowsModel" 146 y_M_valueAt ∈ wG := List.mem_filter.mpr ⟨List.mem_append_right _ (List.mem_append_right _ (List.mem_append_right _ (List.mem_append_right _ (List.mem_of_getElem? (i := 84) rfl)))), rfl⟩
theorem wm_4_86 : Cond.instanceMethod y_M_valueAt ∈ wG := List.mem_filter.mpr ⟨List.mem_append_right _ (List.mem_append_right _ (List.mem_append_right _ (List.mem_append_right _ (List.mem_of_getElem? (i := 86) rfl)))), rfl⟩
theorem wm_4_87 : Cond.code y_M_valueAt b_M_valueAt 2 (some .long) ∈ wG := List.mem_filter.mpr ⟨List.mem_append_right _ (List.mem_append_right _ (List.mem_append_right _ (List.mem_append_right _ (List.mem_of_getElem? (i := 87) rfl)))), rfl⟩
theorem wm_4_88 : Cond.methodLink "LinearRowsLaw" 162 y_M_sample ∈ wG := List.mem_filter.mpr ⟨List.mem_append_right _ (List.mem_append_right _ (List.mem_append_right _ (List.mem_append_right _ (List.mem_of_getElem? (i := 88) rfl)))), rfl⟩
theorem wm_4_89 : Cond.instanceMethod y_M_sample ∈ wG := List.mem_filter.mpr ⟨List.mem_append_right _ (List.mem_append_right _ (List.mem_append_right _ (List.mem_append_right _ (List.mem_of_getElem? (i := 89) rfl)))), rfl⟩
theorem wm_4_90 : Cond.selects "LinearRowsModel" y_M_sample y_M_sample ∈ wG := List.mem_filter.mpr ⟨List.mem_append_right _ (List.mem_append_right _ (List.mem_append_right _ (List.mem_append_right _ (List.mem_of_getElem? (i := 90) rfl)))), rfl⟩
theorem wm_4_91 : Cond.code y_M_sample b_M_sample 8 (some .boolean) ∈ wG := List.mem_filter.mpr ⟨List.mem_append_right _ (List.mem_append_right _ (List.mem_append_right _ (List.mem_append_right _ (List.mem_of_getElem? (i := 91) rfl)))), rfl⟩
theorem wm_4_92 : Cond.methodLink "LinearRowsLaw" 165 y_M_needed ∈ wG := List.mem_filter.mpr ⟨List.mem_append_right _ (List.mem_append_right _ (List.mem_append_right _ (List.mem_append_right _ (List.mem_of_getElem? (i := 92) rfl)))), rfl⟩
theorem wm_4_93 : Cond.instanceMethod y_M_needed ∈ wG := List.mem_filter.mpr ⟨List.mem_append_right _ (List.mem_append_right _ (List.mem_append_right _ (List.mem_append_right _ (List.mem_of_getElem? (i := 93) rfl)))), rfl⟩
theorem wm_4_94 : Cond.selects "LinearRowsModel" y_M_needed y_M_needed ∈ wG := List.mem_filter.mpr ⟨List.mem_append_right _ (List.mem_append_right _ (List.mem_append_right _ (List.mem_append_right _ (List.mem_of_getElem? (i := 94) rfl)))), rfl⟩
theorem wm_4_95 : Cond.code y_M_needed b_M_needed 4 (some .int) ∈ wG := List.mem_filter.mpr ⟨List.mem_append_right _ (List.mem_append_right _ (List.mem_append_right _ (List.mem_append_right _ (List.mem_of_getElem? (i := 95) rfl)))), rfl⟩
theorem wm_4_96 : Cond.constantLong "LinearRowsModel" 153 (-1) ∈ wG := List.mem_filter.mpr ⟨List.mem_append_right _ (List.mem_append_right _ (List.mem_append_right _ (List.mem_append_right _ (List.mem_of_getElem? (i := 96) rfl)))), rfl⟩
theorem wm_4_97 : Cond.methodLink "LinearRowsModel" 155 y_M_termOf ∈ wG := List.mem_filter.mpr ⟨List.mem_append_right _ (List.mem_append_right _ (List.mem_append_right _ (List.mem_append_right _ (List.mem_of_getElem? (i := 97) rfl)))), rfl⟩
theorem wm_4_98 : Cond.static y_M_termOf ∈ wG := List.mem_filter.mpr ⟨List.mem_append_right _ (List.mem_append_right _ (List.mem_append_right _ (List.mem_append_right _ (List.mem_of_getElem? (i := 98) rfl)))), rfl⟩
theorem wm_4_99 : Cond.code y_M_termOf b_M_termOf 1 (some .int) ∈ wG := List.mem_filter.mpr ⟨List.mem_append_right _ (List.mem_append_right _ (List.mem_append_right _ (List.mem_append_right _ (List.mem_of_getElem? (i := 99) rfl)))), rfl⟩
theorem wm_4_100 : Cond.methodLink "LinearRowsModel" 158 y_M_listRow ∈ wG := List.mem_filter.mpr ⟨List.mem_append_right _ (List.mem_append_right _ (List.mem_append_right _ (List.mem_append_right _ (List.mem_of_getElem? (i := 100) rfl)))), rfl⟩
theorem wm_4_102 : Cond.instanceMethod y_M_listRow ∈ wG := List.mem_filter.mpr ⟨List.mem_append_right _ (List.mem_append_right _ (List.mem_append_right _ (List.mem_append_right _ (List.mem_of_getElem? (i := 102) rfl)))), rfl⟩
theorem wm_4_103 : Cond.code y_M_listRow b_M_listRow 5 none ∈ wG := List.mem_filter.mpr ⟨List.mem_append_right _ (List.mem_append_right _ (List.mem_append_right _ (List.mem_append_right _ (List.mem_of_getElem? (i := 103) rfl)))), rfl⟩
theorem wm_4_104 : Cond.methodLink "LinearRowsLaw" 168 y_M_needs ∈ wG := List.mem_filter.mpr ⟨List.mem_append_right _ (List.mem_append_right _ (List.mem_append_right _ (List.mem_append_right _ (List.mem_of_getElem? (i := 104) rfl)))), rfl⟩
theorem wm_4_105 : Cond.instanceMethod y_M_needs ∈ wG := List.mem_filter.mpr ⟨List.mem_append_right _ (List.mem_append_right _ (List.mem_append_right _ (List.mem_append_right _ (List.mem_of_getElem? (i := 105) rfl)))), rfl⟩
theorem wm_4_106 : Cond.selects "LinearRowsModel" y_M_needs y_M_needs ∈ wG := List.mem_filter.mpr ⟨List.mem_append_right _ (List.mem_append_right _ (List.mem_append_right _ (List.mem_append_right _ (List.mem_of_getElem? (i := 106) rfl)))), rfl⟩
theorem wm_4_107 : Cond.code y_M_needs b_M_needs 3 (some .long) ∈ wG := List.mem_filter.mpr ⟨List.mem_append_right _ (List.mem_append_right _ (List.mem_append_right _ (List.mem_append_right _ (List.mem_of_getElem? (i := 107) rfl)))), rfl⟩
theorem wm_4_108 : Cond.methodLink "LinearRowsLaw" 171 y_M_fits ∈ wG := List.mem_filter.mpr ⟨List.mem_append_right _ (List.mem_append_right _ (List.mem_append_right _ (List.mem_append_right _ (List.mem_of_getElem? (i := 108) rfl)))), rfl⟩
theorem wm_4_109 : Cond.instanceMethod y_M_fits ∈ wG := List.mem_filter.mpr ⟨List.mem_append_right _ (List.mem_append_right _ (List.mem_append_right _ (List.mem_append_right _ (List.mem_of_getElem? (i := 109) rfl)))), rfl⟩
theorem wm_4_110 : Cond.selects "LinearRowsModel" y_M_fits y_M_fits ∈ wG := List.mem_filter.mpr ⟨List.mem_append_right _ (List.mem_append_right _ (List.mem_append_right _ (List.mem_append_right _ (List.mem_of_getElem? (i := 110) rfl)))), rfl⟩
theorem wm_4_111 : Cond.code y_M_fits b_M_fits 6 (some .boolean) ∈ wG := List.mem_filter.mpr ⟨List.mem_append_right _ (List.mem_append_right _ (List.mem_append_right _ (List.mem_append_right _ (List.mem_of_getElem? (i := 111) rfl)))), rfl⟩
theorem wm_4_112 : Cond.methodLink "LinearRowsLaw" 174 y_M_array ∈ wG := List.mem_filter.mpr ⟨List.mem_append_right _ (List.mem_append_right _ (List.mem_append_right _ (List.mem_append_right _ (List.mem_of_getElem? (i := 112) rfl)))), rfl⟩
theorem wm_4_113 : Cond.instanceMethod y_M_array ∈ wG := List.mem_filter.mpr ⟨List.mem_append_right _ (List.mem_append_right _ (List.mem_append_right _ (List.mem_append_right _ (List.mem_of_getElem? (i := 113) rfl)))), rfl⟩
theorem wm_4_114 : Cond.selects "LinearRowsModel" y_M_array y_M_array ∈ wG := List.mem_filter.mpr ⟨List.mem_append_right _ (List.mem_append_right _ (List.mem_append_right _ (List.mem_append_right _ (List.mem_of_getElem? (i := 114) rfl)))), rfl⟩
theorem wm_4_115 : Cond.code y_M_array b_M_array 4 (some .int) ∈ wG := List.mem_filter.mpr ⟨List.mem_append_right _ (List.mem_append_right _ (List.mem_append_right _ (List.mem_append_right _ (List.mem_of_getElem? (i := 115) rfl)))), rfl⟩
theorem wm_4_116 : Cond.methodLink "LinearRowsLaw" 177 y_M_told ∈ wG := List.mem_filter.mpr ⟨List.mem_append_right _ (List.mem_append_right _ (List.mem_append_right _ (List.mem_append_right _ (List.mem_of_getElem? (i := 116) rfl)))), rfl⟩
theorem wm_4_117 : Cond.instanceMethod y_M_told ∈ wG := List.mem_filter.mpr ⟨List.mem_append_right _ (List.mem_append_right _ (List.mem_append_right _ (List.mem_append_right _ (List.mem_of_getElem? (i := 117) rfl)))), rfl⟩
theorem wm_4_118 : Cond.selects "LinearRowsModel" y_M_told y_M_told ∈ wG := List.mem_filter.mpr ⟨List.mem_append_right _ (List.mem_append_right _ (List.mem_append_right _ (List.mem_append_right _ (List.mem_of_getElem? (i := 118) rfl)))), rfl⟩
theorem wm_4_119 : Cond.code y_M_told b_M_told 5 (some .int) ∈ wG := List.mem_filter.mpr ⟨List.mem_append_right _ (List.mem_append_right _ (List.mem_append_right _ (List.mem_append_right _ (List.mem_of_getElem? (i := 119) rfl)))), rfl⟩
theorem wm_4_120 : Cond.constantLong "LinearRowsLaw" 110 4294967295 ∈ wG := List.mem_filter.mpr ⟨List.mem_append_right _ (List.mem_append_right _ (List.mem_append_right _ (List.mem_append_right _ (List.mem_of_getElem? (i := 120) rfl)))), rfl⟩
theorem ws_X_checkTerm : Cond.selects R_X y_X_checkTerm y_X_checkTerm ∈ wG := List.mem_filter.mpr ⟨List.mem_append_left _ (List.mem_of_getElem? (i := 1) rfl), rfl⟩
theorem ws_S_closeKeptRows : Cond.selects R_S y_S_closeKeptRows y_S_closeKeptRows ∈ wG := List.mem_filter.mpr ⟨List.mem_append_left _ (List.mem_of_getElem? (i := 2) rfl), rfl⟩
theorem ws_T_chainThrough : Cond.selects R_T y_T_chainThrough y_T_chainThrough ∈ wG := List.mem_filter.mpr ⟨List.mem_append_left _ (List.mem_of_getElem? (i := 3) rfl), rfl⟩
theorem ws_T_hasOppositesBelowZero : Cond.selects R_T y_T_hasOppositesBelowZero y_T_hasOppositesBelowZero ∈ wG := List.mem_filter.mpr ⟨List.mem_append_left _ (List.mem_of_getElem? (i := 4) rfl), rfl⟩
theorem ws_T_cutToEven : Cond.selects R_T y_T_cutToEven y_T_cutToEven ∈ wG := List.mem_filter.mpr ⟨List.mem_append_left _ (List.mem_of_getElem? (i := 5) rfl), rfl⟩
theorem ws_T_hasTwicesThatContradict : Cond.selects R_T y_T_hasTwicesThatContradict y_T_hasTwicesThatContradict ∈ wG := List.mem_filter.mpr ⟨List.mem_append_left _ (List.mem_of_getElem? (i := 6) rfl), rfl⟩
theorem ws_T_addHalves : Cond.selects R_T y_T_addHalves y_T_addHalves ∈ wG := List.mem_filter.mpr ⟨List.mem_append_left _ (List.mem_of_getElem? (i := 7) rfl), rfl⟩
theorem ws_X_takeMade : Cond.selects R_X y_X_takeMade y_X_takeMade ∈ wG := List.mem_filter.mpr ⟨List.mem_append_left _ (List.mem_of_getElem? (i := 8) rfl), rfl⟩
theorem ws_S_keepBounds : Cond.selects R_S y_S_keepBounds y_S_keepBounds ∈ wG := List.mem_filter.mpr ⟨List.mem_append_left _ (List.mem_of_getElem? (i := 9) rfl), rfl⟩
theorem ws_X_checkName : Cond.selects R_X y_X_checkName y_X_checkName ∈ wG := List.mem_filter.mpr ⟨List.mem_append_left _ (List.mem_of_getElem? (i := 10) rfl), rfl⟩
theorem ws_X_numberAt : Cond.selects R_X y_X_numberAt y_X_numberAt ∈ wG := List.mem_filter.mpr ⟨List.mem_append_left _ (List.mem_of_getElem? (i := 11) rfl), rfl⟩
theorem ws_X_sampleNumber : Cond.selects R_X y_X_sampleNumber y_X_sampleNumber ∈ wG := List.mem_filter.mpr ⟨List.mem_append_left _ (List.mem_of_getElem? (i := 12) rfl), rfl⟩
theorem ws_X_greatestBeside : Cond.selects R_X y_X_greatestBeside y_X_greatestBeside ∈ wG := List.mem_filter.mpr ⟨List.mem_append_left _ (List.mem_of_getElem? (i := 13) rfl), rfl⟩
theorem ws_X_tellRow : Cond.selects R_X y_X_tellRow y_X_tellRow ∈ wG := List.mem_filter.mpr ⟨List.mem_append_left _ (List.mem_of_getElem? (i := 14) rfl), rfl⟩
theorem ws_X_leaveOutPairs : Cond.selects R_X y_X_leaveOutPairs y_X_leaveOutPairs ∈ wG := List.mem_filter.mpr ⟨List.mem_append_left _ (List.mem_of_getElem? (i := 15) rfl), rfl⟩
theorem ws_X_leaveOutUnlessNeeded : Cond.selects R_X y_X_leaveOutUnlessNeeded y_X_leaveOutUnlessNeeded ∈ wG := List.mem_filter.mpr ⟨List.mem_append_left _ (List.mem_of_getElem? (i := 16) rfl), rfl⟩
theorem ws_X_leaveOutSingles : Cond.selects R_X y_X_leaveOutSingles y_X_leaveOutSingles ∈ wG := List.mem_filter.mpr ⟨List.mem_append_left _ (List.mem_of_getElem? (i := 17) rfl), rfl⟩
theorem ws_X_tellLeftRows : Cond.selects R_X y_X_tellLeftRows y_X_tellLeftRows ∈ wG := List.mem_filter.mpr ⟨List.mem_append_left _ (List.mem_of_getElem? (i := 18) rfl), rfl⟩
theorem ws_X_countEmpty : Cond.selects R_X y_X_countEmpty y_X_countEmpty ∈ wG := List.mem_filter.mpr ⟨List.mem_append_left _ (List.mem_of_getElem? (i := 19) rfl), rfl⟩
theorem ws_M_isShape : Cond.selects R_M y_M_isShape y_M_isShape ∈ wG := List.mem_filter.mpr ⟨List.mem_append_left _ (List.mem_of_getElem? (i := 20) rfl), rfl⟩
theorem ws_M_none : Cond.selects R_M y_M_none y_M_none ∈ wG := List.mem_filter.mpr ⟨List.mem_append_left _ (List.mem_of_getElem? (i := 21) rfl), rfl⟩
theorem ws_M_isTerm : Cond.selects R_M y_M_isTerm y_M_isTerm ∈ wG := List.mem_filter.mpr ⟨List.mem_append_left _ (List.mem_of_getElem? (i := 22) rfl), rfl⟩
theorem ws_M_closeShape : Cond.selects R_M y_M_closeShape y_M_closeShape ∈ wG := List.mem_filter.mpr ⟨List.mem_append_left _ (List.mem_of_getElem? (i := 23) rfl), rfl⟩
theorem ws_M_loadRows : Cond.selects R_M y_M_loadRows y_M_loadRows ∈ wG := List.mem_filter.mpr ⟨List.mem_append_left _ (List.mem_of_getElem? (i := 24) rfl), rfl⟩
theorem ws_M_close : Cond.selects R_M y_M_close y_M_close ∈ wG := List.mem_filter.mpr ⟨List.mem_append_left _ (List.mem_of_getElem? (i := 25) rfl), rfl⟩
theorem ws_M_isFar : Cond.selects R_M y_M_isFar y_M_isFar ∈ wG := List.mem_filter.mpr ⟨List.mem_append_left _ (List.mem_of_getElem? (i := 26) rfl), rfl⟩
theorem ws_M_boundOf : Cond.selects R_M y_M_boundOf y_M_boundOf ∈ wG := List.mem_filter.mpr ⟨List.mem_append_left _ (List.mem_of_getElem? (i := 27) rfl), rfl⟩
theorem ws_M_areShapes : Cond.selects R_M y_M_areShapes y_M_areShapes ∈ wG := List.mem_filter.mpr ⟨List.mem_append_left _ (List.mem_of_getElem? (i := 28) rfl), rfl⟩
theorem ws_M_keepClosed : Cond.selects R_M y_M_keepClosed y_M_keepClosed ∈ wG := List.mem_filter.mpr ⟨List.mem_append_left _ (List.mem_of_getElem? (i := 29) rfl), rfl⟩
theorem ws_M_copyTable : Cond.selects R_M y_M_copyTable y_M_copyTable ∈ wG := List.mem_filter.mpr ⟨List.mem_append_left _ (List.mem_of_getElem? (i := 30) rfl), rfl⟩
theorem ws_M_copyRows : Cond.selects R_M y_M_copyRows y_M_copyRows ∈ wG := List.mem_filter.mpr ⟨List.mem_append_left _ (List.mem_of_getElem? (i := 31) rfl), rfl⟩
theorem ws_M_closeMade : Cond.selects R_M y_M_closeMade y_M_closeMade ∈ wG := List.mem_filter.mpr ⟨List.mem_append_left _ (List.mem_of_getElem? (i := 32) rfl), rfl⟩
theorem ws_M_keepMade : Cond.selects R_M y_M_keepMade y_M_keepMade ∈ wG := List.mem_filter.mpr ⟨List.mem_append_left _ (List.mem_of_getElem? (i := 33) rfl), rfl⟩
theorem ws_M_isName : Cond.selects R_M y_M_isName y_M_isName ∈ wG := List.mem_filter.mpr ⟨List.mem_append_left _ (List.mem_of_getElem? (i := 34) rfl), rfl⟩
theorem ws_M_turn : Cond.selects R_M y_M_turn y_M_turn ∈ wG := List.mem_filter.mpr ⟨List.mem_append_left _ (List.mem_of_getElem? (i := 35) rfl), rfl⟩
theorem ws_M_drop : Cond.selects R_M y_M_drop y_M_drop ∈ wG := List.mem_filter.mpr ⟨List.mem_append_left _ (List.mem_of_getElem? (i := 36) rfl), rfl⟩
theorem ws_M_addRow : Cond.selects R_M y_M_addRow y_M_addRow ∈ wG := List.mem_filter.mpr ⟨List.mem_append_left _ (List.mem_of_getElem? (i := 37) rfl), rfl⟩
theorem ws_M_valueAt : Cond.selects R_M y_M_valueAt y_M_valueAt ∈ wG := List.mem_filter.mpr ⟨List.mem_append_left _ (List.mem_of_getElem? (i := 38) rfl), rfl⟩
theorem ws_M_listRow : Cond.selects R_M y_M_listRow y_M_listRow ∈ wG := List.mem_filter.mpr ⟨List.mem_append_left _ (List.mem_of_getElem? (i := 39) rfl), rfl⟩
theorem wu_T : ∀ w ∈ u_ws R_T F_T 2, w ∈ wG := by
  show ∀ w ∈ [u_lay R_T F_T 0, u_lay R_T F_T 1], w ∈ wG
  exact List.forall_mem_cons.mpr ⟨wm_1_47, List.forall_mem_cons.mpr ⟨wm_1_49, fun _ h => absurd h List.not_mem_nil⟩⟩
theorem wu_S : ∀ w ∈ u_ws R_S F_S 4, w ∈ wG := by
  show ∀ w ∈ [u_lay R_S F_S 0, u_lay R_S F_S 1, u_lay R_S F_S 2, u_lay R_S F_S 3], w ∈ wG
  exact List.forall_mem_cons.mpr ⟨wm_1_64, List.forall_mem_cons.mpr ⟨wm_1_66, List.forall_mem_cons.mpr ⟨wm_1_68, List.forall_mem_cons.mpr ⟨wm_1_70, fun _ h => absurd h List.not_mem_nil⟩⟩⟩⟩
theorem wu_X : ∀ w ∈ u_ws R_X F_X 9, w ∈ wG := by
  show ∀ w ∈ [u_lay R_X F_X 0, u_lay R_X F_X 1, u_lay R_X F_X 2, u_lay R_X F_X 3, u_lay R_X F_X 4, u_lay R_X F_X 5, u_lay R_X F_X 6, u_lay R_X F_X 7, u_lay R_X F_X 8], w ∈ wG
  exact List.forall_mem_cons.mpr ⟨wm_1_84, List.forall_mem_cons.mpr ⟨wm_1_86, List.forall_mem_cons.mpr ⟨wm_1_88, List.forall_mem_cons.mpr ⟨wm_1_90, List.forall_mem_cons.mpr ⟨wm_1_92, List.forall_mem_cons.mpr ⟨wm_1_94, List.forall_mem_cons.mpr ⟨wm_1_96, List.forall_mem_cons.mpr ⟨wm_1_98, List.forall_mem_cons.mpr ⟨wm_1_100, fun _ h => absurd h List.not_mem_nil⟩⟩⟩⟩⟩⟩⟩⟩⟩
theorem wu_M : ∀ w ∈ u_ws R_M F_M 13, w ∈ wG := by
  show ∀ w ∈ [u_lay R_M F_M 0, u_lay R_M F_M 1, u_lay R_M F_M 2, u_lay R_M F_M 3, u_lay R_M F_M 4, u_lay R_M F_M 5, u_lay R_M F_M 6, u_lay R_M F_M 7, u_lay R_M F_M 8, u_lay R_M F_M 9, u_lay R_M F_M 10, u_lay R_M F_M 11, u_lay R_M F_M 12], w ∈ wG
  exact List.forall_mem_cons.mpr ⟨wm_3_138, List.forall_mem_cons.mpr ⟨wm_3_140, List.forall_mem_cons.mpr ⟨wm_3_142, List.forall_mem_cons.mpr ⟨wm_3_144, List.forall_mem_cons.mpr ⟨wm_3_146, List.forall_mem_cons.mpr ⟨wm_3_148, List.forall_mem_cons.mpr ⟨wm_3_150, List.forall_mem_cons.mpr ⟨wm_3_152, List.forall_mem_cons.mpr ⟨wm_3_154, List.forall_mem_cons.mpr ⟨wm_3_156, List.forall_mem_cons.mpr ⟨wm_3_158, List.forall_mem_cons.mpr ⟨wm_3_160, List.forall_mem_cons.mpr ⟨wm_3_162, fun _ h => absurd h List.not_mem_nil⟩⟩⟩⟩⟩⟩⟩⟩⟩⟩⟩⟩⟩
