/-! names: classes and fields (by wip/whole/mk_names) -/
def R_S : String := "WhatWasNearly$Standing"
def F_S : u_T := fun k => match k with
  | 0 => ("WhatWasNearly$Standing", "choices", "I", false)
  | 1 => ("WhatWasNearly$Standing", "pieces", "I", false)
  | 2 => ("WhatWasNearly$Standing", "rooms", "I", false)
  | 3 => ("WhatWasNearly$Standing", "was", "I", false)
  | 4 => ("WhatWasNearly$Standing", "x", "I", false)
  | 5 => ("WhatWasNearly$Standing", "ways", "[I", true)
  | _ => ("WhatWasNearly$Standing", "places", "[I", true)
def ft_S : Nat → FieldType := fun k => match k with
  | 0 => .int
  | 1 => .int
  | 2 => .int
  | 3 => .int
  | 4 => .int
  | 5 => .array .int
  | _ => .array .int
theorem fn_S : ∀ a, a < 7 → ∀ b, b < 7 → a ≠ b → (F_S a).2.1 ≠ (F_S b).2.1 := by decide +kernel
theorem ft_S_ok : ∀ k, k < 7 → parseFieldDescriptor (F_S k).2.2.1 = some (ft_S k) := by decide +kernel
theorem fi_S : ∀ w ∈ u_ws R_S F_S 7, w ∈ lw_tbl := by decide +kernel
def R_N : String := "WhatWasNearly$Needs"
def F_N : u_T := fun k => match k with
  | 0 => ("WhatWasNearly$Needs", "one", "I", false)
  | 1 => ("WhatWasNearly$Needs", "nought", "I", false)
  | 2 => ("WhatWasNearly$Needs", "comes", "I", false)
  | _ => ("WhatWasNearly$Needs", "not", "I", false)
def ft_N : Nat → FieldType := fun k => match k with
  | 0 => .int
  | 1 => .int
  | 2 => .int
  | _ => .int
theorem fn_N : ∀ a, a < 4 → ∀ b, b < 4 → a ≠ b → (F_N a).2.1 ≠ (F_N b).2.1 := by decide +kernel
theorem ft_N_ok : ∀ k, k < 4 → parseFieldDescriptor (F_N k).2.2.1 = some (ft_N k) := by decide +kernel
theorem fi_N : ∀ w ∈ u_ws R_N F_N 4, w ∈ lw_tbl := by decide +kernel
def R_X : String := "WhatWasNearly$Text"
def F_X : u_T := fun k => match k with
  | 0 => ("WhatWasNearly$Text", "kinds", "[I", true)
  | 1 => ("WhatWasNearly$Text", "firsts", "[I", true)
  | 2 => ("WhatWasNearly$Text", "seconds", "[I", true)
  | 3 => ("WhatWasNearly$Text", "terms", "[I", true)
  | 4 => ("WhatWasNearly$Text", "values", "[I", true)
  | 5 => ("WhatWasNearly$Text", "outcomes", "[I", true)
  | 6 => ("WhatWasNearly$Text", "clauses", "I", false)
  | 7 => ("WhatWasNearly$Text", "events", "I", false)
  | 8 => ("WhatWasNearly$Text", "size", "I", false)
  | 9 => ("WhatWasNearly$Text", "workedOut", "I", false)
  | _ => ("WhatWasNearly$Text", "limited", "Z", false)
def ft_X : Nat → FieldType := fun k => match k with
  | 0 => .array .int
  | 1 => .array .int
  | 2 => .array .int
  | 3 => .array .int
  | 4 => .array .int
  | 5 => .array .int
  | 6 => .int
  | 7 => .int
  | 8 => .int
  | 9 => .int
  | _ => .boolean
theorem fn_X : ∀ a, a < 11 → ∀ b, b < 11 → a ≠ b → (F_X a).2.1 ≠ (F_X b).2.1 := by decide +kernel
theorem ft_X_ok : ∀ k, k < 11 → parseFieldDescriptor (F_X k).2.2.1 = some (ft_X k) := by decide +kernel
theorem fi_X : ∀ w ∈ u_ws R_X F_X 11, w ∈ lw_tbl := by decide +kernel
def R_T : String := "WhatWasNearly$Steps"
def F_T : u_T := fun k => match k with
  | 0 => ("WhatWasNearly$Steps", "ring", "[LWhatWasNearly$Standing;", true)
  | 1 => ("WhatWasNearly$Steps", "first", "I", false)
  | _ => ("WhatWasNearly$Steps", "count", "I", false)
def ft_T : Nat → FieldType := fun k => match k with
  | 0 => .array (.object "WhatWasNearly$Standing")
  | 1 => .int
  | _ => .int
theorem fn_T : ∀ a, a < 3 → ∀ b, b < 3 → a ≠ b → (F_T a).2.1 ≠ (F_T b).2.1 := by decide +kernel
theorem ft_T_ok : ∀ k, k < 3 → parseFieldDescriptor (F_T k).2.2.1 = some (ft_T k) := by decide +kernel
theorem fi_T : ∀ w ∈ u_ws R_T F_T 3, w ∈ lw_tbl := by decide +kernel
def R_U : String := "WhatWasNearly$Museum"
def F_U : u_T := fun k => match k with
  | 0 => ("WhatWasNearly$Museum", "live", "LWhatWasNearly$Standing;", true)
  | 1 => ("WhatWasNearly$Museum", "steps", "LWhatWasNearly$Steps;", true)
  | 2 => ("WhatWasNearly$Museum", "odds", "[I", true)
  | 3 => ("WhatWasNearly$Museum", "needs", "[LWhatWasNearly$Needs;", true)
  | 4 => ("WhatWasNearly$Museum", "holds", "[I", true)
  | 5 => ("WhatWasNearly$Museum", "callers", "[I", true)
  | 6 => ("WhatWasNearly$Museum", "hinderers", "[I", true)
  | 7 => ("WhatWasNearly$Museum", "parents", "[I", true)
  | 8 => ("WhatWasNearly$Museum", "known", "LWhatWasNearly$Needs;", true)
  | 9 => ("WhatWasNearly$Museum", "people", "I", false)
  | 10 => ("WhatWasNearly$Museum", "facts", "I", false)
  | 11 => ("WhatWasNearly$Museum", "texts", "I", false)
  | _ => ("WhatWasNearly$Museum", "ruling", "I", false)
def ft_U : Nat → FieldType := fun k => match k with
  | 0 => .object "WhatWasNearly$Standing"
  | 1 => .object "WhatWasNearly$Steps"
  | 2 => .array .int
  | 3 => .array (.object "WhatWasNearly$Needs")
  | 4 => .array .int
  | 5 => .array .int
  | 6 => .array .int
  | 7 => .array .int
  | 8 => .object "WhatWasNearly$Needs"
  | 9 => .int
  | 10 => .int
  | 11 => .int
  | _ => .int
theorem fn_U : ∀ a, a < 13 → ∀ b, b < 13 → a ≠ b → (F_U a).2.1 ≠ (F_U b).2.1 := by decide +kernel
theorem ft_U_ok : ∀ k, k < 13 → parseFieldDescriptor (F_U k).2.2.1 = some (ft_U k) := by decide +kernel
theorem fi_U : ∀ w ∈ u_ws R_U F_U 13, w ∈ lw_tbl := by decide +kernel
def R_P : String := "WhatWasNearly$Tape"
def F_P : u_T := fun k => match k with
  | 0 => ("WhatWasNearly$Tape", "bytes", "[I", true)
  | 1 => ("WhatWasNearly$Tape", "starts", "[I", true)
  | 2 => ("WhatWasNearly$Tape", "kinds", "[I", true)
  | 3 => ("WhatWasNearly$Tape", "values", "[I", true)
  | 4 => ("WhatWasNearly$Tape", "length", "I", false)
  | _ => ("WhatWasNearly$Tape", "tokens", "I", false)
def ft_P : Nat → FieldType := fun k => match k with
  | 0 => .array .int
  | 1 => .array .int
  | 2 => .array .int
  | 3 => .array .int
  | 4 => .int
  | _ => .int
theorem fn_P : ∀ a, a < 6 → ∀ b, b < 6 → a ≠ b → (F_P a).2.1 ≠ (F_P b).2.1 := by decide +kernel
theorem ft_P_ok : ∀ k, k < 6 → parseFieldDescriptor (F_P k).2.2.1 = some (ft_P k) := by decide +kernel
theorem fi_P : ∀ w ∈ u_ws R_P F_P 6, w ∈ lw_tbl := by decide +kernel
def R_R : String := "WhatWasNearly$Reader"
def F_R : u_T := fun k => match k with
  | 0 => ("WhatWasNearly$Reader", "tape", "LWhatWasNearly$Tape;", true)
  | 1 => ("WhatWasNearly$Reader", "target", "LWhatWasNearly$Text;", false)
  | 2 => ("WhatWasNearly$Reader", "at", "I", false)
  | 3 => ("WhatWasNearly$Reader", "fault", "I", false)
  | _ => ("WhatWasNearly$Reader", "place", "I", false)
def ft_R : Nat → FieldType := fun k => match k with
  | 0 => .object "WhatWasNearly$Tape"
  | 1 => .object "WhatWasNearly$Text"
  | 2 => .int
  | 3 => .int
  | _ => .int
theorem fn_R : ∀ a, a < 5 → ∀ b, b < 5 → a ≠ b → (F_R a).2.1 ≠ (F_R b).2.1 := by decide +kernel
theorem ft_R_ok : ∀ k, k < 5 → parseFieldDescriptor (F_R k).2.2.1 = some (ft_R k) := by decide +kernel
theorem fi_R : ∀ w ∈ u_ws R_R F_R 5, w ∈ lw_tbl := by decide +kernel
def R_L : String := "WhatWasNearly$Laws"
def F_L : u_T := fun k => match k with
  | 0 => ("WhatWasNearly$Laws", "museum", "LWhatWasNearly$Museum;", true)
  | 1 => ("WhatWasNearly$Laws", "texts", "[LWhatWasNearly$Text;", true)
  | 2 => ("WhatWasNearly$Laws", "stack", "[I", true)
  | _ => ("WhatWasNearly$Laws", "top", "I", false)
def ft_L : Nat → FieldType := fun k => match k with
  | 0 => .object "WhatWasNearly$Museum"
  | 1 => .array (.object "WhatWasNearly$Text")
  | 2 => .array .int
  | _ => .int
theorem fn_L : ∀ a, a < 4 → ∀ b, b < 4 → a ≠ b → (F_L a).2.1 ≠ (F_L b).2.1 := by decide +kernel
theorem ft_L_ok : ∀ k, k < 4 → parseFieldDescriptor (F_L k).2.2.1 = some (ft_L k) := by decide +kernel
theorem fi_L : ∀ w ∈ u_ws R_L F_L 4, w ∈ lw_tbl := by decide +kernel
def R_G : String := "WhatWasNearly$MissingRoom"
def F_G : u_T := fun k => match k with
  | 0 => ("WhatWasNearly$MissingRoom", "museum", "LWhatWasNearly$Museum;", true)
  | 1 => ("WhatWasNearly$MissingRoom", "laws", "LWhatWasNearly$Laws;", true)
  | 2 => ("WhatWasNearly$MissingRoom", "with", "[I", true)
  | 3 => ("WhatWasNearly$MissingRoom", "without", "[I", true)
  | _ => ("WhatWasNearly$MissingRoom", "apart", "[I", true)
def ft_G : Nat → FieldType := fun k => match k with
  | 0 => .object "WhatWasNearly$Museum"
  | 1 => .object "WhatWasNearly$Laws"
  | 2 => .array .int
  | 3 => .array .int
  | _ => .array .int
theorem fn_G : ∀ a, a < 5 → ∀ b, b < 5 → a ≠ b → (F_G a).2.1 ≠ (F_G b).2.1 := by decide +kernel
theorem ft_G_ok : ∀ k, k < 5 → parseFieldDescriptor (F_G k).2.2.1 = some (ft_G k) := by decide +kernel
theorem fi_G : ∀ w ∈ u_ws R_G F_G 5, w ∈ lw_tbl := by decide +kernel
def R_H : String := "WhatWasNearly$Otherwise"
def F_H : u_T := fun k => match k with
  | 0 => ("WhatWasNearly$Otherwise", "museum", "LWhatWasNearly$Museum;", true)
  | 1 => ("WhatWasNearly$Otherwise", "laws", "LWhatWasNearly$Laws;", true)
  | 2 => ("WhatWasNearly$Otherwise", "doors", "[I", true)
  | _ => ("WhatWasNearly$Otherwise", "queue", "[I", true)
def ft_H : Nat → FieldType := fun k => match k with
  | 0 => .object "WhatWasNearly$Museum"
  | 1 => .object "WhatWasNearly$Laws"
  | 2 => .array .int
  | _ => .array .int
theorem fn_H : ∀ a, a < 4 → ∀ b, b < 4 → a ≠ b → (F_H a).2.1 ≠ (F_H b).2.1 := by decide +kernel
theorem ft_H_ok : ∀ k, k < 4 → parseFieldDescriptor (F_H k).2.2.1 = some (ft_H k) := by decide +kernel
theorem fi_H : ∀ w ∈ u_ws R_H F_H 4, w ∈ lw_tbl := by decide +kernel
def R_K : String := "WhatWasNearly$Collection"
def F_K : u_T := fun k => match k with
  | 0 => ("WhatWasNearly$Collection", "museum", "LWhatWasNearly$Museum;", true)
  | 1 => ("WhatWasNearly$Collection", "laws", "LWhatWasNearly$Laws;", true)
  | 2 => ("WhatWasNearly$Collection", "together", "[I", true)
  | 3 => ("WhatWasNearly$Collection", "roomsFor", "[I", true)
  | _ => ("WhatWasNearly$Collection", "space", "[I", true)
def ft_K : Nat → FieldType := fun k => match k with
  | 0 => .object "WhatWasNearly$Museum"
  | 1 => .object "WhatWasNearly$Laws"
  | 2 => .array .int
  | 3 => .array .int
  | _ => .array .int
theorem fn_K : ∀ a, a < 5 → ∀ b, b < 5 → a ≠ b → (F_K a).2.1 ≠ (F_K b).2.1 := by decide +kernel
theorem ft_K_ok : ∀ k, k < 5 → parseFieldDescriptor (F_K k).2.2.1 = some (ft_K k) := by decide +kernel
theorem fi_K : ∀ w ∈ u_ws R_K F_K 5, w ∈ lw_tbl := by decide +kernel
def R_W : String := "WhatWasNearly"
def F_W : u_T := fun k => match k with
  | 0 => ("WhatWasNearly", "museum", "LWhatWasNearly$Museum;", true)
  | 1 => ("WhatWasNearly", "image", "LWhatWasNearly$Museum;", true)
  | 2 => ("WhatWasNearly", "tape", "LWhatWasNearly$Tape;", true)
  | 3 => ("WhatWasNearly", "reader", "LWhatWasNearly$Reader;", true)
  | 4 => ("WhatWasNearly", "laws", "LWhatWasNearly$Laws;", true)
  | 5 => ("WhatWasNearly", "missing", "LWhatWasNearly$MissingRoom;", true)
  | 6 => ("WhatWasNearly", "otherwise", "LWhatWasNearly$Otherwise;", true)
  | _ => ("WhatWasNearly", "collection", "LWhatWasNearly$Collection;", true)
def ft_W : Nat → FieldType := fun k => match k with
  | 0 => .object "WhatWasNearly$Museum"
  | 1 => .object "WhatWasNearly$Museum"
  | 2 => .object "WhatWasNearly$Tape"
  | 3 => .object "WhatWasNearly$Reader"
  | 4 => .object "WhatWasNearly$Laws"
  | 5 => .object "WhatWasNearly$MissingRoom"
  | 6 => .object "WhatWasNearly$Otherwise"
  | _ => .object "WhatWasNearly$Collection"
theorem fn_W : ∀ a, a < 8 → ∀ b, b < 8 → a ≠ b → (F_W a).2.1 ≠ (F_W b).2.1 := by decide +kernel
theorem ft_W_ok : ∀ k, k < 8 → parseFieldDescriptor (F_W k).2.2.1 = some (ft_W k) := by decide +kernel
theorem fi_W : ∀ w ∈ u_ws R_W F_W 8, w ∈ lw_tbl := by decide +kernel
def R_M : String := "WhatWasNearlyModel"
def F_M : u_T := fun k => match k with
  | 0 => ("WhatWasNearlyModel", "a", "[I", true)
  | 1 => ("WhatWasNearlyModel", "image", "[I", true)
  | 2 => ("WhatWasNearlyModel", "texts", "[I", true)
  | 3 => ("WhatWasNearlyModel", "tape", "[I", true)
  | 4 => ("WhatWasNearlyModel", "taped", "I", false)
  | 5 => ("WhatWasNearlyModel", "fault", "I", false)
  | 6 => ("WhatWasNearlyModel", "faultPlace", "I", false)
  | 7 => ("WhatWasNearlyModel", "at", "I", false)
  | 8 => ("WhatWasNearlyModel", "place", "I", false)
  | 9 => ("WhatWasNearlyModel", "token", "I", false)
  | 10 => ("WhatWasNearlyModel", "number", "I", false)
  | 11 => ("WhatWasNearlyModel", "word", "J", false)
  | 12 => ("WhatWasNearlyModel", "text0", "I", false)
  | 13 => ("WhatWasNearlyModel", "written", "I", false)
  | 14 => ("WhatWasNearlyModel", "events", "I", false)
  | 15 => ("WhatWasNearlyModel", "pile", "[I", true)
  | 16 => ("WhatWasNearlyModel", "counts", "[I", true)
  | 17 => ("WhatWasNearlyModel", "piled", "I", false)
  | 18 => ("WhatWasNearlyModel", "opens", "I", false)
  | 19 => ("WhatWasNearlyModel", "counting", "I", false)
  | 20 => ("WhatWasNearlyModel", "isWhole", "Z", false)
  | 21 => ("WhatWasNearlyModel", "hasMay", "Z", false)
  | 22 => ("WhatWasNearlyModel", "values", "[J", true)
  | 23 => ("WhatWasNearlyModel", "truth", "[Z", true)
  | 24 => ("WhatWasNearlyModel", "comes", "[I", true)
  | 25 => ("WhatWasNearlyModel", "mays", "[Z", true)
  | 26 => ("WhatWasNearlyModel", "agreements", "[I", true)
  | 27 => ("WhatWasNearlyModel", "known", "[I", true)
  | 28 => ("WhatWasNearlyModel", "doors", "[I", true)
  | 29 => ("WhatWasNearlyModel", "member", "[I", true)
  | 30 => ("WhatWasNearlyModel", "place0", "[I", true)
  | 31 => ("WhatWasNearlyModel", "best", "[I", true)
  | 32 => ("WhatWasNearlyModel", "filled", "[I", true)
  | _ => ("WhatWasNearlyModel", "fits", "[Z", true)
def ft_M : Nat → FieldType := fun k => match k with
  | 0 => .array .int
  | 1 => .array .int
  | 2 => .array .int
  | 3 => .array .int
  | 4 => .int
  | 5 => .int
  | 6 => .int
  | 7 => .int
  | 8 => .int
  | 9 => .int
  | 10 => .int
  | 11 => .long
  | 12 => .int
  | 13 => .int
  | 14 => .int
  | 15 => .array .int
  | 16 => .array .int
  | 17 => .int
  | 18 => .int
  | 19 => .int
  | 20 => .boolean
  | 21 => .boolean
  | 22 => .array .long
  | 23 => .array .boolean
  | 24 => .array .int
  | 25 => .array .boolean
  | 26 => .array .int
  | 27 => .array .int
  | 28 => .array .int
  | 29 => .array .int
  | 30 => .array .int
  | 31 => .array .int
  | 32 => .array .int
  | _ => .array .boolean
theorem fn_M : ∀ a, a < 34 → ∀ b, b < 34 → a ≠ b → (F_M a).2.1 ≠ (F_M b).2.1 := by decide +kernel
theorem ft_M_ok : ∀ k, k < 34 → parseFieldDescriptor (F_M k).2.2.1 = some (ft_M k) := by decide +kernel
theorem fi_M : ∀ w ∈ u_ws R_M F_M 34, w ∈ lw_tbl := by decide +kernel
abbrev sm_classes : List vw_C := [(R_S, F_S, 7), (R_N, F_N, 4), (R_X, F_X, 11), (R_T, F_T, 3), (R_U, F_U, 13), (R_P, F_P, 6), (R_R, F_R, 5), (R_L, F_L, 4), (R_G, F_G, 5), (R_H, F_H, 4), (R_K, F_K, 5), (R_W, F_W, 8), (R_M, F_M, 34)]
/-- the kind of a field: 0 an int, 1 a long, 2 a reference -/
def sm_fk (t k : Nat) : Nat := (([[0, 0, 0, 0, 0, 2, 2], [0, 0, 0, 0], [2, 2, 2, 2, 2, 2, 0, 0, 0, 0, 0], [2, 0, 0], [2, 2, 2, 2, 2, 2, 2, 2, 2, 0, 0, 0, 0], [2, 2, 2, 2, 0, 0], [2, 2, 0, 0, 0], [2, 2, 2, 0], [2, 2, 2, 2, 2], [2, 2, 2, 2], [2, 2, 2, 2, 2], [2, 2, 2, 2, 2, 2, 2, 2], [2, 2, 2, 2, 0, 0, 0, 0, 0, 0, 0, 1, 0, 0, 0, 2, 2, 0, 0, 0, 0, 0, 2, 2, 2, 2, 2, 2, 2, 2, 2, 2, 2, 2]] : List (List Nat)).getD (t - 100) []).getD k 0
