abbrev R_X : String := "MemberChooser"
abbrev R_T : String := "MemberChooser$Types"
abbrev R_M : String := "MemberChooser$Members"
abbrev R_H : String := "MemberChooser$Chooser"
abbrev R_K : String := "MemberChooser$KeptCalls"
abbrev R_Q : String := "MemberChooserModel"
abbrev R_L : String := "MemberChooserLaw"
abbrev R_I : String := "java/lang/Integer"
def F_X : u_T := fun k => match k with
  | 0 => ("MemberChooser", "types", "LMemberChooser$Types;", true)
  | 1 => ("MemberChooser", "members", "LMemberChooser$Members;", true)
  | 2 => ("MemberChooser", "chooser", "LMemberChooser$Chooser;", true)
  | 3 => ("MemberChooser", "kept", "LMemberChooser$KeptCalls;", true)
  | 4 => ("MemberChooser", "workedOut", "I", false)
  | _ => ("MemberChooser", "foundKept", "I", false)
def ty_X : Nat → FieldType := fun k => match k with
  | 0 => .object "MemberChooser$Types"
  | 1 => .object "MemberChooser$Members"
  | 2 => .object "MemberChooser$Chooser"
  | 3 => .object "MemberChooser$KeptCalls"
  | 4 => .int
  | _ => .int
theorem n_X : ∀ a, a < 6 → ∀ b, b < 6 → a ≠ b → (F_X a).2.1 ≠ (F_X b).2.1 := by decide +kernel
theorem ty_X_ok : ∀ k, k < 6 → parseFieldDescriptor (F_X k).2.2.1 = some (ty_X k) := by decide +kernel
theorem il_X : ∀ w ∈ u_ws R_X F_X 6, w ∈ lw_tbl := by decide +kernel
theorem ig_X : (u_ws R_X F_X 6).all goodWord = true := by decide +kernel
theorem i_X : ∀ w ∈ u_ws R_X F_X 6, w ∈ zTb := fun w h => List.mem_filter.mpr ⟨il_X w h, List.all_eq_true.mp ig_X w h⟩
def F_T : u_T := fun k => match k with
  | 0 => ("MemberChooser$Types", "faceMarks", "[Z", true)
  | 1 => ("MemberChooser$Types", "classAbove", "[I", true)
  | 2 => ("MemberChooser$Types", "faceCounts", "[I", true)
  | 3 => ("MemberChooser$Types", "facesAbove", "[[I", true)
  | 4 => ("MemberChooser$Types", "upward", "[I", true)
  | _ => ("MemberChooser$Types", "told", "I", false)
def ty_T : Nat → FieldType := fun k => match k with
  | 0 => .array .boolean
  | 1 => .array .int
  | 2 => .array .int
  | 3 => .array (.array .int)
  | 4 => .array .int
  | _ => .int
theorem n_T : ∀ a, a < 6 → ∀ b, b < 6 → a ≠ b → (F_T a).2.1 ≠ (F_T b).2.1 := by decide +kernel
theorem ty_T_ok : ∀ k, k < 6 → parseFieldDescriptor (F_T k).2.2.1 = some (ty_T k) := by decide +kernel
theorem il_T : ∀ w ∈ u_ws R_T F_T 6, w ∈ lw_tbl := by decide +kernel
theorem ig_T : (u_ws R_T F_T 6).all goodWord = true := by decide +kernel
theorem i_T : ∀ w ∈ u_ws R_T F_T 6, w ∈ zTb := fun w h => List.mem_filter.mpr ⟨il_T w h, List.all_eq_true.mp ig_T w h⟩
def F_M : u_T := fun k => match k with
  | 0 => ("MemberChooser$Members", "owners", "[I", true)
  | 1 => ("MemberChooser$Members", "names", "[I", true)
  | 2 => ("MemberChooser$Members", "sizes", "[I", true)
  | 3 => ("MemberChooser$Members", "parameters", "[J", true)
  | 4 => ("MemberChooser$Members", "variables", "[Z", true)
  | _ => ("MemberChooser$Members", "told", "I", false)
def ty_M : Nat → FieldType := fun k => match k with
  | 0 => .array .int
  | 1 => .array .int
  | 2 => .array .int
  | 3 => .array .long
  | 4 => .array .boolean
  | _ => .int
theorem n_M : ∀ a, a < 6 → ∀ b, b < 6 → a ≠ b → (F_M a).2.1 ≠ (F_M b).2.1 := by decide +kernel
theorem ty_M_ok : ∀ k, k < 6 → parseFieldDescriptor (F_M k).2.2.1 = some (ty_M k) := by decide +kernel
theorem il_M : ∀ w ∈ u_ws R_M F_M 6, w ∈ lw_tbl := by decide +kernel
theorem ig_M : (u_ws R_M F_M 6).all goodWord = true := by decide +kernel
theorem i_M : ∀ w ∈ u_ws R_M F_M 6, w ∈ zTb := fun w h => List.mem_filter.mpr ⟨il_M w h, List.all_eq_true.mp ig_M w h⟩
def F_H : u_T := fun k => match k with
  | 0 => ("MemberChooser$Chooser", "types", "LMemberChooser$Types;", true)
  | 1 => ("MemberChooser$Chooser", "members", "LMemberChooser$Members;", true)
  | 2 => ("MemberChooser$Chooser", "line", "[I", true)
  | 3 => ("MemberChooser$Chooser", "meant", "[I", true)
  | 4 => ("MemberChooser$Chooser", "fitting", "[I", true)
  | 5 => ("MemberChooser$Chooser", "meantCount", "I", false)
  | 6 => ("MemberChooser$Chooser", "fittingCount", "I", false)
  | _ => ("MemberChooser$Chooser", "phase", "I", false)
def ty_H : Nat → FieldType := fun k => match k with
  | 0 => .object "MemberChooser$Types"
  | 1 => .object "MemberChooser$Members"
  | 2 => .array .int
  | 3 => .array .int
  | 4 => .array .int
  | 5 => .int
  | 6 => .int
  | _ => .int
theorem n_H : ∀ a, a < 8 → ∀ b, b < 8 → a ≠ b → (F_H a).2.1 ≠ (F_H b).2.1 := by decide +kernel
theorem ty_H_ok : ∀ k, k < 8 → parseFieldDescriptor (F_H k).2.2.1 = some (ty_H k) := by decide +kernel
theorem il_H : ∀ w ∈ u_ws R_H F_H 8, w ∈ lw_tbl := by decide +kernel
theorem ig_H : (u_ws R_H F_H 8).all goodWord = true := by decide +kernel
theorem i_H : ∀ w ∈ u_ws R_H F_H 8, w ∈ zTb := fun w h => List.mem_filter.mpr ⟨il_H w h, List.all_eq_true.mp ig_H w h⟩
def F_K : u_T := fun k => match k with
  | 0 => ("MemberChooser$KeptCalls", "types", "[I", true)
  | 1 => ("MemberChooser$KeptCalls", "names", "[I", true)
  | 2 => ("MemberChooser$KeptCalls", "sizes", "[I", true)
  | 3 => ("MemberChooser$KeptCalls", "classes", "[J", true)
  | 4 => ("MemberChooser$KeptCalls", "outcomes", "[I", true)
  | _ => ("MemberChooser$KeptCalls", "held", "I", false)
def ty_K : Nat → FieldType := fun k => match k with
  | 0 => .array .int
  | 1 => .array .int
  | 2 => .array .int
  | 3 => .array .long
  | 4 => .array .int
  | _ => .int
theorem n_K : ∀ a, a < 6 → ∀ b, b < 6 → a ≠ b → (F_K a).2.1 ≠ (F_K b).2.1 := by decide +kernel
theorem ty_K_ok : ∀ k, k < 6 → parseFieldDescriptor (F_K k).2.2.1 = some (ty_K k) := by decide +kernel
theorem il_K : ∀ w ∈ u_ws R_K F_K 6, w ∈ lw_tbl := by decide +kernel
theorem ig_K : (u_ws R_K F_K 6).all goodWord = true := by decide +kernel
theorem i_K : ∀ w ∈ u_ws R_K F_K 6, w ∈ zTb := fun w h => List.mem_filter.mpr ⟨il_K w h, List.all_eq_true.mp ig_K w h⟩
def F_Q : u_T := fun k => match k with
  | 0 => ("MemberChooserModel", "thrown", "I", false)
  | 1 => ("MemberChooserModel", "types", "I", false)
  | 2 => ("MemberChooserModel", "isFace", "[Z", true)
  | 3 => ("MemberChooserModel", "above", "[I", true)
  | 4 => ("MemberChooserModel", "faceMany", "[I", true)
  | 5 => ("MemberChooserModel", "faces", "[I", true)
  | 6 => ("MemberChooserModel", "members", "I", false)
  | 7 => ("MemberChooserModel", "owner", "[I", true)
  | 8 => ("MemberChooserModel", "nameOf", "[I", true)
  | 9 => ("MemberChooserModel", "many", "[I", true)
  | 10 => ("MemberChooserModel", "parameter", "[I", true)
  | 11 => ("MemberChooserModel", "isVariable", "[Z", true)
  | 12 => ("MemberChooserModel", "kept", "I", false)
  | 13 => ("MemberChooserModel", "keptType", "[I", true)
  | 14 => ("MemberChooserModel", "keptName", "[I", true)
  | 15 => ("MemberChooserModel", "keptMany", "[I", true)
  | 16 => ("MemberChooserModel", "keptClasses", "[J", true)
  | 17 => ("MemberChooserModel", "keptAnswer", "[I", true)
  | 18 => ("MemberChooserModel", "worked", "I", false)
  | 19 => ("MemberChooserModel", "had", "I", false)
  | 20 => ("MemberChooserModel", "phase", "I", false)
  | 21 => ("MemberChooserModel", "line", "[I", true)
  | 22 => ("MemberChooserModel", "lineMany", "I", false)
  | 23 => ("MemberChooserModel", "meant", "[I", true)
  | 24 => ("MemberChooserModel", "meantMany", "I", false)
  | 25 => ("MemberChooserModel", "value", "[I", true)
  | 26 => ("MemberChooserModel", "isOver", "[Z", true)
  | _ => ("MemberChooserModel", "pile", "[I", true)
def ty_Q : Nat → FieldType := fun k => match k with
  | 0 => .int
  | 1 => .int
  | 2 => .array .boolean
  | 3 => .array .int
  | 4 => .array .int
  | 5 => .array .int
  | 6 => .int
  | 7 => .array .int
  | 8 => .array .int
  | 9 => .array .int
  | 10 => .array .int
  | 11 => .array .boolean
  | 12 => .int
  | 13 => .array .int
  | 14 => .array .int
  | 15 => .array .int
  | 16 => .array .long
  | 17 => .array .int
  | 18 => .int
  | 19 => .int
  | 20 => .int
  | 21 => .array .int
  | 22 => .int
  | 23 => .array .int
  | 24 => .int
  | 25 => .array .int
  | 26 => .array .boolean
  | _ => .array .int
theorem n_Q : ∀ a, a < 28 → ∀ b, b < 28 → a ≠ b → (F_Q a).2.1 ≠ (F_Q b).2.1 := by decide +kernel
theorem ty_Q_ok : ∀ k, k < 28 → parseFieldDescriptor (F_Q k).2.2.1 = some (ty_Q k) := by decide +kernel
theorem il_Q : ∀ w ∈ u_ws R_Q F_Q 28, w ∈ lw_tbl := by decide +kernel
theorem ig_Q : (u_ws R_Q F_Q 28).all goodWord = true := by decide +kernel
theorem i_Q : ∀ w ∈ u_ws R_Q F_Q 28, w ∈ zTb := fun w h => List.mem_filter.mpr ⟨il_Q w h, List.all_eq_true.mp ig_Q w h⟩
abbrev vwCl : List vw_C := [(R_X, F_X, 6), (R_T, F_T, 6), (R_M, F_M, 6), (R_H, F_H, 8), (R_K, F_K, 6), (R_Q, F_Q, 28)]
def zNf : List (String × Nat × String × String × String) := [("MemberChooser", 131, "MemberChooser$KeptCalls", "outcomes", "[I"), ("MemberChooser", 150, "MemberChooser$Types", "told", "I"), ("MemberChooser", 153, "MemberChooser$Members", "told", "I"), ("MemberChooser", 154, "MemberChooser$KeptCalls", "held", "I"), ("MemberChooser", 157, "MemberChooser$Chooser", "phase", "I"), ("MemberChooser$Chooser", 62, "MemberChooser$Members", "told", "I"), ("MemberChooser$Chooser", 95, "MemberChooser$Members", "variables", "[Z"), ("MemberChooser$Chooser", 99, "MemberChooser$Members", "sizes", "[I")]
def zNm : List (String × Nat × MethodName) := [("MemberChooser$Members", 43, ⟨"MemberChooser", "byteAt", "(JI)I"⟩), ("MemberChooser$Chooser", 84, ⟨"MemberChooser", "byteAt", "(JI)I"⟩)]
