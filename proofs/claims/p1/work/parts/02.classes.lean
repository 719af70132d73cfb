def cp_in_ (w : Cond) : Prop := w ∈ lw_tbl.filter goodWord
def cp_WS : List Cond := lw_tbl.filter goodWord
theorem cp_in {w : Cond} (h : w ∈ tables_1) (g : goodWord w = true) : w ∈ cp_WS := List.mem_filter.mpr ⟨List.mem_append_right _ h, g⟩
theorem cp_inS {w : Cond} (h : w ∈ k2_sels lw_privs) (g : goodWord w = true) : w ∈ cp_WS := List.mem_filter.mpr ⟨List.mem_append_left _ h, g⟩
def cp_F0 : List (String × String × String × Bool) := [("ConditionedProofs", "text", "[C", true), ("ConditionedProofs", "textSize", "I", false), ("ConditionedProofs", "page", "[C", true), ("ConditionedProofs", "pageSize", "I", false), ("ConditionedProofs", "dictionary", "LConditionedProofs$Dictionary;", true), ("ConditionedProofs", "values", "LConditionedProofs$Values;", true), ("ConditionedProofs", "bindings", "LConditionedProofs$Bindings;", true), ("ConditionedProofs", "reader", "LConditionedProofs$Reader;", true), ("ConditionedProofs", "runner", "LConditionedProofs$Runner;", true), ("ConditionedProofs", "typer", "LConditionedProofs$Typer;", true), ("ConditionedProofs", "inspector", "LConditionedProofs$CodeInspector;", true), ("ConditionedProofs", "result", "LConditionedProofs$Node;", false), ("ConditionedProofs", "openResult", "Z", false)]
def cp_Y0 : List FieldType := [(.array .char), .int, (.array .char), .int, (.object "ConditionedProofs$Dictionary"), (.object "ConditionedProofs$Values"), (.object "ConditionedProofs$Bindings"), (.object "ConditionedProofs$Reader"), (.object "ConditionedProofs$Runner"), (.object "ConditionedProofs$Typer"), (.object "ConditionedProofs$CodeInspector"), (.object "ConditionedProofs$Node"), .boolean]
def cp_F1 : List (String × String × String × Bool) := [("ConditionedProofs$Dictionary", "byLetter", "[LConditionedProofs$Entry;", true), ("ConditionedProofs$Dictionary", "order", "[C", true), ("ConditionedProofs$Dictionary", "size", "I", false)]
def cp_Y1 : List FieldType := [(.array (.object "ConditionedProofs$Entry")), (.array .char), .int]
def cp_F2 : List (String × String × String × Bool) := [("ConditionedProofs$Values", "row", "LConditionedProofs$Row;", true), ("ConditionedProofs$Values", "waiting", "LConditionedProofs$Row;", true), ("ConditionedProofs$Values", "pairs", "LConditionedProofs$Row;", true), ("ConditionedProofs$Values", "draft", "[C", true), ("ConditionedProofs$Values", "draftSize", "I", false)]
def cp_Y2 : List FieldType := [(.object "ConditionedProofs$Row"), (.object "ConditionedProofs$Row"), (.object "ConditionedProofs$Row"), (.array .char), .int]
def cp_F3 : List (String × String × String × Bool) := [("ConditionedProofs$Row", "items", "[I", false), ("ConditionedProofs$Row", "size", "I", false)]
def cp_Y3 : List FieldType := [(.array .int), .int]
def cp_F4 : List (String × String × String × Bool) := [("ConditionedProofs$Bindings", "names", "LConditionedProofs$Row;", true), ("ConditionedProofs$Bindings", "held", "LConditionedProofs$Row;", true), ("ConditionedProofs$Bindings", "types", "LConditionedProofs$Row;", true)]
def cp_Y4 : List FieldType := [(.object "ConditionedProofs$Row"), (.object "ConditionedProofs$Row"), (.object "ConditionedProofs$Row")]
def cp_F5 : List (String × String × String × Bool) := [("ConditionedProofs$Reader", "text", "[C", false), ("ConditionedProofs$Reader", "end", "I", false), ("ConditionedProofs$Reader", "at", "I", false)]
def cp_Y5 : List FieldType := [(.array .char), .int, .int]
def cp_F6 : List (String × String × String × Bool) := [("ConditionedProofs$Runner", "dictionary", "LConditionedProofs$Dictionary;", true), ("ConditionedProofs$Runner", "values", "LConditionedProofs$Values;", true), ("ConditionedProofs$Runner", "bindings", "LConditionedProofs$Bindings;", true), ("ConditionedProofs$Runner", "stepsOfRun", "I", false), ("ConditionedProofs$Runner", "stepsOfCall", "I", false)]
def cp_Y6 : List FieldType := [(.object "ConditionedProofs$Dictionary"), (.object "ConditionedProofs$Values"), (.object "ConditionedProofs$Bindings"), .int, .int]
def cp_F7 : List (String × String × String × Bool) := [("ConditionedProofs$Typer", "dictionary", "LConditionedProofs$Dictionary;", true), ("ConditionedProofs$Typer", "values", "LConditionedProofs$Values;", true), ("ConditionedProofs$Typer", "bindings", "LConditionedProofs$Bindings;", true), ("ConditionedProofs$Typer", "runner", "LConditionedProofs$Runner;", true), ("ConditionedProofs$Typer", "declaring", "Z", false), ("ConditionedProofs$Typer", "namesEnd", "I", false), ("ConditionedProofs$Typer", "wrongPlace", "I", false), ("ConditionedProofs$Typer", "latestValue", "I", false)]
def cp_Y7 : List FieldType := [(.object "ConditionedProofs$Dictionary"), (.object "ConditionedProofs$Values"), (.object "ConditionedProofs$Bindings"), (.object "ConditionedProofs$Runner"), .boolean, .int, .int, .int]
def cp_F8 : List (String × String × String × Bool) := [("ConditionedProofs$CodeInspector", "dictionary", "LConditionedProofs$Dictionary;", true), ("ConditionedProofs$CodeInspector", "bindings", "LConditionedProofs$Bindings;", true)]
def cp_Y8 : List FieldType := [(.object "ConditionedProofs$Dictionary"), (.object "ConditionedProofs$Bindings")]
def cp_F9 : List (String × String × String × Bool) := [("ConditionedProofs$Node", "sort", "I", true), ("ConditionedProofs$Node", "symbol", "I", true), ("ConditionedProofs$Node", "place", "I", true), ("ConditionedProofs$Node", "count", "I", false), ("ConditionedProofs$Node", "first", "LConditionedProofs$Node;", false), ("ConditionedProofs$Node", "last", "LConditionedProofs$Node;", false), ("ConditionedProofs$Node", "next", "LConditionedProofs$Node;", false)]
def cp_Y9 : List FieldType := [.int, .int, .int, .int, (.object "ConditionedProofs$Node"), (.object "ConditionedProofs$Node"), (.object "ConditionedProofs$Node")]
def cp_F10 : List (String × String × String × Bool) := [("ConditionedProofs$Entry", "letter", "C", true), ("ConditionedProofs$Entry", "isProgram", "Z", true), ("ConditionedProofs$Entry", "parameterCount", "I", true), ("ConditionedProofs$Entry", "hasConditions", "Z", true), ("ConditionedProofs$Entry", "tree", "LConditionedProofs$Node;", true)]
def cp_Y10 : List FieldType := [.char, .boolean, .int, .boolean, (.object "ConditionedProofs$Node")]
def cp_F11 : List (String × String × String × Bool) := [("ConditionedProofsModel", "fault", "I", false), ("ConditionedProofsModel", "typed", "I", false), ("ConditionedProofsModel", "text", "[I", true), ("ConditionedProofsModel", "written", "I", false), ("ConditionedProofsModel", "page", "[I", true), ("ConditionedProofsModel", "draft", "[I", true), ("ConditionedProofsModel", "kinds", "[I", true), ("ConditionedProofsModel", "many", "[I", true), ("ConditionedProofsModel", "startNode", "[I", true), ("ConditionedProofsModel", "startPart", "[I", true), ("ConditionedProofsModel", "partsOf", "[I", true), ("ConditionedProofsModel", "resultOf", "[I", true), ("ConditionedProofsModel", "codeOf", "[I", true), ("ConditionedProofsModel", "nameOf", "[I", true), ("ConditionedProofsModel", "declared", "I", false), ("ConditionedProofsModel", "sequence", "[I", true), ("ConditionedProofsModel", "nodes", "I", false), ("ConditionedProofsModel", "op", "[I", true), ("ConditionedProofsModel", "val", "[I", true), ("ConditionedProofsModel", "cnt", "[I", true), ("ConditionedProofsModel", "readFrom", "I", false), ("ConditionedProofsModel", "place", "[I", true), ("ConditionedProofsModel", "holeAt", "[I", true), ("ConditionedProofsModel", "parts", "I", false), ("ConditionedProofsModel", "partKind", "[I", true), ("ConditionedProofsModel", "partName", "[I", true), ("ConditionedProofsModel", "partNode", "[I", true), ("ConditionedProofsModel", "partTerms", "[I", true), ("ConditionedProofsModel", "partPlace", "[I", true), ("ConditionedProofsModel", "waiting", "I", false), ("ConditionedProofsModel", "expect", "[I", true), ("ConditionedProofsModel", "first", "[I", true), ("ConditionedProofsModel", "second", "[I", true), ("ConditionedProofsModel", "reading", "I", false), ("ConditionedProofsModel", "names", "I", false), ("ConditionedProofsModel", "values", "I", false), ("ConditionedProofsModel", "form", "[I", true), ("ConditionedProofsModel", "data", "[I", true), ("ConditionedProofsModel", "from", "[I", true), ("ConditionedProofsModel", "size", "[I", true), ("ConditionedProofsModel", "cells", "I", false), ("ConditionedProofsModel", "cell", "[I", true), ("ConditionedProofsModel", "fillings", "I", false), ("ConditionedProofsModel", "pile", "[I", true), ("ConditionedProofsModel", "pairs", "I", false), ("ConditionedProofsModel", "pairOne", "[I", true), ("ConditionedProofsModel", "pairTwo", "[I", true), ("ConditionedProofsModel", "pairNext", "[I", true), ("ConditionedProofsModel", "onWay", "[I", true), ("ConditionedProofsModel", "wayNext", "[I", true), ("ConditionedProofsModel", "named", "[I", true), ("ConditionedProofsModel", "typeOfName", "[I", true), ("ConditionedProofsModel", "atNode", "[I", true), ("ConditionedProofsModel", "atPart", "[I", true), ("ConditionedProofsModel", "atArgument", "[I", true), ("ConditionedProofsModel", "valuesThen", "[I", true), ("ConditionedProofsModel", "cellsThen", "[I", true), ("ConditionedProofsModel", "fillingsThen", "[I", true), ("ConditionedProofsModel", "declares", "Z", false), ("ConditionedProofsModel", "wrongAt", "I", false), ("ConditionedProofsModel", "steps", "I", false), ("ConditionedProofsModel", "own", "I", false), ("ConditionedProofsModel", "depth", "I", false), ("ConditionedProofsModel", "failed", "Z", false), ("ConditionedProofsModel", "outcome", "I", false), ("ConditionedProofsModel", "given", "[I", true), ("ConditionedProofsModel", "waitNode", "[I", true), ("ConditionedProofsModel", "waitState", "[I", true), ("ConditionedProofsModel", "waitNames", "[I", true), ("ConditionedProofsModel", "got", "[I", true), ("ConditionedProofsModel", "bound", "I", false), ("ConditionedProofsModel", "boundName", "[I", true), ("ConditionedProofsModel", "boundValue", "[I", true), ("ConditionedProofsModel", "boundNext", "[I", true), ("ConditionedProofsModel", "hasOpen", "Z", false), ("ConditionedProofsModel", "rows", "I", false), ("ConditionedProofsModel", "rowOp", "[I", true), ("ConditionedProofsModel", "rowVal", "[I", true), ("ConditionedProofsModel", "rowCnt", "[I", true), ("ConditionedProofsModel", "hasResult", "Z", false), ("ConditionedProofsModel", "isStar", "Z", false), ("ConditionedProofsModel", "isOpen", "Z", false), ("ConditionedProofsModel", "resultNodes", "I", false), ("ConditionedProofsModel", "resultOp", "[I", true), ("ConditionedProofsModel", "resultVal", "[I", true), ("ConditionedProofsModel", "resultCnt", "[I", true)]
def cp_Y11 : List FieldType := [.int, .int, (.array .int), .int, (.array .int), (.array .int), (.array .int), (.array .int), (.array .int), (.array .int), (.array .int), (.array .int), (.array .int), (.array .int), .int, (.array .int), .int, (.array .int), (.array .int), (.array .int), .int, (.array .int), (.array .int), .int, (.array .int), (.array .int), (.array .int), (.array .int), (.array .int), .int, (.array .int), (.array .int), (.array .int), .int, .int, .int, (.array .int), (.array .int), (.array .int), (.array .int), .int, (.array .int), .int, (.array .int), .int, (.array .int), (.array .int), (.array .int), (.array .int), (.array .int), (.array .int), (.array .int), (.array .int), (.array .int), (.array .int), (.array .int), (.array .int), (.array .int), .boolean, .int, .int, .int, .int, .boolean, .int, (.array .int), (.array .int), (.array .int), (.array .int), (.array .int), .int, (.array .int), (.array .int), (.array .int), .boolean, .int, (.array .int), (.array .int), (.array .int), .boolean, .boolean, .boolean, .int, (.array .int), (.array .int), (.array .int)]
def cp_F12 : List (String × String × String × Bool) := [("java/lang/Throwable", "cause", "Ljava/lang/Throwable;", false), ("java/lang/Throwable", "stackTrace", "[Ljava/lang/StackTraceElement;", false), ("java/lang/Throwable", "suppressedExceptions", "Ljava/util/List;", false), ("java/lang/Throwable", "detailMessage", "Ljava/lang/String;", false), ("java/lang/Throwable", "backtrace", "Ljava/lang/Object;", false), ("java/lang/Throwable", "depth", "I", false)]
def cp_Y12 : List FieldType := [(.object "java/lang/Throwable"), (.array (.object "java/lang/StackTraceElement")), (.object "java/util/List"), (.object "java/lang/String"), (.object "java/lang/Object"), .int]
def cp_F13 : List (String × String × String × Bool) := [("java/lang/Throwable", "cause", "Ljava/lang/Throwable;", false), ("java/lang/Throwable", "stackTrace", "[Ljava/lang/StackTraceElement;", false), ("java/lang/Throwable", "suppressedExceptions", "Ljava/util/List;", false), ("java/lang/Throwable", "detailMessage", "Ljava/lang/String;", false), ("java/lang/Throwable", "backtrace", "Ljava/lang/Object;", false), ("java/lang/Throwable", "depth", "I", false)]
def cp_Y13 : List FieldType := [(.object "java/lang/Throwable"), (.array (.object "java/lang/StackTraceElement")), (.object "java/util/List"), (.object "java/lang/String"), (.object "java/lang/Object"), .int]
def cp_R : Nat → String := fun ci => ["ConditionedProofs", "ConditionedProofs$Dictionary", "ConditionedProofs$Values", "ConditionedProofs$Row", "ConditionedProofs$Bindings", "ConditionedProofs$Reader", "ConditionedProofs$Runner", "ConditionedProofs$Typer", "ConditionedProofs$CodeInspector", "ConditionedProofs$Node", "ConditionedProofs$Entry", "ConditionedProofsModel", "java/lang/IllegalArgumentException", "java/lang/IllegalStateException"].getD ci ""
def cp_FL : Nat → List (String × String × String × Bool) := fun ci => [cp_F0, cp_F1, cp_F2, cp_F3, cp_F4, cp_F5, cp_F6, cp_F7, cp_F8, cp_F9, cp_F10, cp_F11, cp_F12, cp_F13].getD ci []
def cp_F (ci : Nat) : u_T := fun k => (cp_FL ci).getD k ("", "", "", false)
def cp_N : Nat → Nat := fun ci => [13, 3, 5, 2, 3, 3, 5, 8, 2, 7, 5, 86, 6, 6].getD ci 0
def cp_ty (ci : Nat) : Nat → FieldType := fun k => ([cp_Y0, cp_Y1, cp_Y2, cp_Y3, cp_Y4, cp_Y5, cp_Y6, cp_Y7, cp_Y8, cp_Y9, cp_Y10, cp_Y11, cp_Y12, cp_Y13].getD ci []).getD k .int
def cp_cl : List vw_C := (List.range 14).map (fun ci => (cp_R ci, cp_F ci, cp_N ci))
theorem cp_cl_at {ci : Nat} (h : ci < 14) : cp_cl[ci]? = some (cp_R ci, cp_F ci, cp_N ci) := by simp [cp_cl, h]
/-- all that the tables say of a class -/
def cp_ok (ci : Nat) : Prop := ci < 14 ∧ (∀ w ∈ u_ws (cp_R ci) (cp_F ci) (cp_N ci), w ∈ cp_WS) ∧ (∀ k, k < cp_N ci → parseFieldDescriptor (cp_F ci k).2.2.1 = some (cp_ty ci k)) ∧ (∀ a, a < cp_N ci → ∀ b, b < cp_N ci → a ≠ b → (cp_F ci a).2.1 ≠ (cp_F ci b).2.1) ∧ Cond.instantiable (cp_R ci) (cp_N ci) ∈ cp_WS ∧ Cond.initialized (cp_R ci) ∈ cp_WS
theorem cp_uws {ci : Nat} (h : ∀ k, k < cp_N ci → u_lay (cp_R ci) (cp_F ci) k ∈ cp_WS) : ∀ w ∈ u_ws (cp_R ci) (cp_F ci) (cp_N ci), w ∈ cp_WS := by
  intro w hw
  obtain ⟨k, hk, rfl⟩ := List.mem_map.mp hw
  exact h k (List.mem_range.mp hk)
theorem cp_lay0 : ∀ k, k < 13 → u_lay (cp_R 0) (cp_F 0) k ∈ cp_WS := fun k hk => match k, hk with
  | 0, _ => cp_in (List.mem_append_left _ (List.mem_of_getElem? (i := 200) rfl)) rfl
  | 1, _ => cp_in (List.mem_append_left _ (List.mem_of_getElem? (i := 202) rfl)) rfl
  | 2, _ => cp_in (List.mem_append_left _ (List.mem_of_getElem? (i := 204) rfl)) rfl
  | 3, _ => cp_in (List.mem_append_left _ (List.mem_of_getElem? (i := 206) rfl)) rfl
  | 4, _ => cp_in (List.mem_append_left _ (List.mem_of_getElem? (i := 208) rfl)) rfl
  | 5, _ => cp_in (List.mem_append_left _ (List.mem_of_getElem? (i := 210) rfl)) rfl
  | 6, _ => cp_in (List.mem_append_left _ (List.mem_of_getElem? (i := 212) rfl)) rfl
  | 7, _ => cp_in (List.mem_append_left _ (List.mem_of_getElem? (i := 214) rfl)) rfl
  | 8, _ => cp_in (List.mem_append_left _ (List.mem_of_getElem? (i := 216) rfl)) rfl
  | 9, _ => cp_in (List.mem_append_left _ (List.mem_of_getElem? (i := 218) rfl)) rfl
  | 10, _ => cp_in (List.mem_append_left _ (List.mem_of_getElem? (i := 220) rfl)) rfl
  | 11, _ => cp_in (List.mem_append_left _ (List.mem_of_getElem? (i := 222) rfl)) rfl
  | 12, _ => cp_in (List.mem_append_left _ (List.mem_of_getElem? (i := 224) rfl)) rfl
  | (n + 13), h => absurd h (Nat.not_lt.mpr (Nat.le_add_left _ _))
theorem cp_ok0 : cp_ok 0 := ⟨by decide, cp_uws cp_lay0, by decide +kernel, by decide +kernel, cp_in (List.mem_append_left _ (List.mem_of_getElem? (i := 22) rfl)) rfl, cp_in (List.mem_append_left _ (List.mem_of_getElem? (i := 1) rfl)) rfl⟩
theorem cp_lay1 : ∀ k, k < 3 → u_lay (cp_R 1) (cp_F 1) k ∈ cp_WS := fun k hk => match k, hk with
  | 0, _ => cp_in (List.mem_append_left _ (List.mem_of_getElem? (i := 40) rfl)) rfl
  | 1, _ => cp_in (List.mem_append_left _ (List.mem_of_getElem? (i := 42) rfl)) rfl
  | 2, _ => cp_in (List.mem_append_left _ (List.mem_of_getElem? (i := 44) rfl)) rfl
  | (n + 3), h => absurd h (Nat.not_lt.mpr (Nat.le_add_left _ _))
theorem cp_ok1 : cp_ok 1 := ⟨by decide, cp_uws cp_lay1, by decide +kernel, by decide +kernel, cp_in (List.mem_append_left _ (List.mem_of_getElem? (i := 30) rfl)) rfl, cp_in (List.mem_append_left _ (List.mem_of_getElem? (i := 2) rfl)) rfl⟩
theorem cp_lay2 : ∀ k, k < 5 → u_lay (cp_R 2) (cp_F 2) k ∈ cp_WS := fun k hk => match k, hk with
  | 0, _ => cp_in (List.mem_append_left _ (List.mem_of_getElem? (i := 76) rfl)) rfl
  | 1, _ => cp_in (List.mem_append_left _ (List.mem_of_getElem? (i := 78) rfl)) rfl
  | 2, _ => cp_in (List.mem_append_left _ (List.mem_of_getElem? (i := 80) rfl)) rfl
  | 3, _ => cp_in (List.mem_append_left _ (List.mem_of_getElem? (i := 82) rfl)) rfl
  | 4, _ => cp_in (List.mem_append_left _ (List.mem_of_getElem? (i := 84) rfl)) rfl
  | (n + 5), h => absurd h (Nat.not_lt.mpr (Nat.le_add_left _ _))
theorem cp_ok2 : cp_ok 2 := ⟨by decide, cp_uws cp_lay2, by decide +kernel, by decide +kernel, cp_in (List.mem_append_left _ (List.mem_of_getElem? (i := 49) rfl)) rfl, cp_in (List.mem_append_left _ (List.mem_of_getElem? (i := 3) rfl)) rfl⟩
theorem cp_lay3 : ∀ k, k < 2 → u_lay (cp_R 3) (cp_F 3) k ∈ cp_WS := fun k hk => match k, hk with
  | 0, _ => cp_in (List.mem_append_left _ (List.mem_of_getElem? (i := 65) rfl)) rfl
  | 1, _ => cp_in (List.mem_append_left _ (List.mem_of_getElem? (i := 67) rfl)) rfl
  | (n + 2), h => absurd h (Nat.not_lt.mpr (Nat.le_add_left _ _))
theorem cp_ok3 : cp_ok 3 := ⟨by decide, cp_uws cp_lay3, by decide +kernel, by decide +kernel, cp_in (List.mem_append_left _ (List.mem_of_getElem? (i := 55) rfl)) rfl, cp_in (List.mem_append_left _ (List.mem_of_getElem? (i := 4) rfl)) rfl⟩
theorem cp_lay4 : ∀ k, k < 3 → u_lay (cp_R 4) (cp_F 4) k ∈ cp_WS := fun k hk => match k, hk with
  | 0, _ => cp_in (List.mem_append_left _ (List.mem_of_getElem? (i := 98) rfl)) rfl
  | 1, _ => cp_in (List.mem_append_left _ (List.mem_of_getElem? (i := 100) rfl)) rfl
  | 2, _ => cp_in (List.mem_append_left _ (List.mem_of_getElem? (i := 102) rfl)) rfl
  | (n + 3), h => absurd h (Nat.not_lt.mpr (Nat.le_add_left _ _))
theorem cp_ok4 : cp_ok 4 := ⟨by decide, cp_uws cp_lay4, by decide +kernel, by decide +kernel, cp_in (List.mem_append_left _ (List.mem_of_getElem? (i := 88) rfl)) rfl, cp_in (List.mem_append_left _ (List.mem_of_getElem? (i := 6) rfl)) rfl⟩
theorem cp_lay5 : ∀ k, k < 3 → u_lay (cp_R 5) (cp_F 5) k ∈ cp_WS := fun k hk => match k, hk with
  | 0, _ => cp_in (List.mem_append_left _ (List.mem_of_getElem? (i := 114) rfl)) rfl
  | 1, _ => cp_in (List.mem_append_left _ (List.mem_of_getElem? (i := 116) rfl)) rfl
  | 2, _ => cp_in (List.mem_append_left _ (List.mem_of_getElem? (i := 118) rfl)) rfl
  | (n + 3), h => absurd h (Nat.not_lt.mpr (Nat.le_add_left _ _))
theorem cp_ok5 : cp_ok 5 := ⟨by decide, cp_uws cp_lay5, by decide +kernel, by decide +kernel, cp_in (List.mem_append_left _ (List.mem_of_getElem? (i := 106) rfl)) rfl, cp_in (List.mem_append_left _ (List.mem_of_getElem? (i := 7) rfl)) rfl⟩
theorem cp_lay6 : ∀ k, k < 5 → u_lay (cp_R 6) (cp_F 6) k ∈ cp_WS := fun k hk => match k, hk with
  | 0, _ => cp_in (List.mem_append_left _ (List.mem_of_getElem? (i := 132) rfl)) rfl
  | 1, _ => cp_in (List.mem_append_left _ (List.mem_of_getElem? (i := 134) rfl)) rfl
  | 2, _ => cp_in (List.mem_append_left _ (List.mem_of_getElem? (i := 136) rfl)) rfl
  | 3, _ => cp_in (List.mem_append_left _ (List.mem_of_getElem? (i := 138) rfl)) rfl
  | 4, _ => cp_in (List.mem_append_left _ (List.mem_of_getElem? (i := 140) rfl)) rfl
  | (n + 5), h => absurd h (Nat.not_lt.mpr (Nat.le_add_left _ _))
theorem cp_ok6 : cp_ok 6 := ⟨by decide, cp_uws cp_lay6, by decide +kernel, by decide +kernel, cp_in (List.mem_append_left _ (List.mem_of_getElem? (i := 122) rfl)) rfl, cp_in (List.mem_append_left _ (List.mem_of_getElem? (i := 8) rfl)) rfl⟩
theorem cp_lay7 : ∀ k, k < 8 → u_lay (cp_R 7) (cp_F 7) k ∈ cp_WS := fun k hk => match k, hk with
  | 0, _ => cp_in (List.mem_append_left _ (List.mem_of_getElem? (i := 157) rfl)) rfl
  | 1, _ => cp_in (List.mem_append_left _ (List.mem_of_getElem? (i := 159) rfl)) rfl
  | 2, _ => cp_in (List.mem_append_left _ (List.mem_of_getElem? (i := 161) rfl)) rfl
  | 3, _ => cp_in (List.mem_append_left _ (List.mem_of_getElem? (i := 163) rfl)) rfl
  | 4, _ => cp_in (List.mem_append_left _ (List.mem_of_getElem? (i := 165) rfl)) rfl
  | 5, _ => cp_in (List.mem_append_left _ (List.mem_of_getElem? (i := 167) rfl)) rfl
  | 6, _ => cp_in (List.mem_append_left _ (List.mem_of_getElem? (i := 169) rfl)) rfl
  | 7, _ => cp_in (List.mem_append_left _ (List.mem_of_getElem? (i := 171) rfl)) rfl
  | (n + 8), h => absurd h (Nat.not_lt.mpr (Nat.le_add_left _ _))
theorem cp_ok7 : cp_ok 7 := ⟨by decide, cp_uws cp_lay7, by decide +kernel, by decide +kernel, cp_in (List.mem_append_left _ (List.mem_of_getElem? (i := 144) rfl)) rfl, cp_in (List.mem_append_left _ (List.mem_of_getElem? (i := 9) rfl)) rfl⟩
theorem cp_lay8 : ∀ k, k < 2 → u_lay (cp_R 8) (cp_F 8) k ∈ cp_WS := fun k hk => match k, hk with
  | 0, _ => cp_in (List.mem_append_left _ (List.mem_of_getElem? (i := 182) rfl)) rfl
  | 1, _ => cp_in (List.mem_append_left _ (List.mem_of_getElem? (i := 184) rfl)) rfl
  | (n + 2), h => absurd h (Nat.not_lt.mpr (Nat.le_add_left _ _))
theorem cp_ok8 : cp_ok 8 := ⟨by decide, cp_uws cp_lay8, by decide +kernel, by decide +kernel, cp_in (List.mem_append_left _ (List.mem_of_getElem? (i := 175) rfl)) rfl, cp_in (List.mem_append_left _ (List.mem_of_getElem? (i := 10) rfl)) rfl⟩
theorem cp_lay9 : ∀ k, k < 7 → u_lay (cp_R 9) (cp_F 9) k ∈ cp_WS := fun k hk => match k, hk with
  | 0, _ => cp_in (List.mem_append_right _ (List.mem_append_left _ (List.mem_of_getElem? (i := 83) rfl))) rfl
  | 1, _ => cp_in (List.mem_append_right _ (List.mem_append_left _ (List.mem_of_getElem? (i := 85) rfl))) rfl
  | 2, _ => cp_in (List.mem_append_right _ (List.mem_append_left _ (List.mem_of_getElem? (i := 87) rfl))) rfl
  | 3, _ => cp_in (List.mem_append_right _ (List.mem_append_left _ (List.mem_of_getElem? (i := 89) rfl))) rfl
  | 4, _ => cp_in (List.mem_append_right _ (List.mem_append_left _ (List.mem_of_getElem? (i := 91) rfl))) rfl
  | 5, _ => cp_in (List.mem_append_right _ (List.mem_append_left _ (List.mem_of_getElem? (i := 93) rfl))) rfl
  | 6, _ => cp_in (List.mem_append_right _ (List.mem_append_left _ (List.mem_of_getElem? (i := 95) rfl))) rfl
  | (n + 7), h => absurd h (Nat.not_lt.mpr (Nat.le_add_left _ _))
theorem cp_ok9 : cp_ok 9 := ⟨by decide, cp_uws cp_lay9, by decide +kernel, by decide +kernel, cp_in (List.mem_append_right _ (List.mem_append_left _ (List.mem_of_getElem? (i := 47) rfl))) rfl, cp_in (List.mem_append_left _ (List.mem_of_getElem? (i := 17) rfl)) rfl⟩
theorem cp_lay10 : ∀ k, k < 5 → u_lay (cp_R 10) (cp_F 10) k ∈ cp_WS := fun k hk => match k, hk with
  | 0, _ => cp_in (List.mem_append_right _ (List.mem_append_right _ (List.mem_append_right _ (List.mem_append_left _ (List.mem_of_getElem? (i := 161) rfl))))) rfl
  | 1, _ => cp_in (List.mem_append_right _ (List.mem_append_right _ (List.mem_append_right _ (List.mem_append_left _ (List.mem_of_getElem? (i := 163) rfl))))) rfl
  | 2, _ => cp_in (List.mem_append_right _ (List.mem_append_right _ (List.mem_append_right _ (List.mem_append_left _ (List.mem_of_getElem? (i := 165) rfl))))) rfl
  | 3, _ => cp_in (List.mem_append_right _ (List.mem_append_right _ (List.mem_append_right _ (List.mem_append_left _ (List.mem_of_getElem? (i := 167) rfl))))) rfl
  | 4, _ => cp_in (List.mem_append_right _ (List.mem_append_right _ (List.mem_append_right _ (List.mem_append_left _ (List.mem_of_getElem? (i := 169) rfl))))) rfl
  | (n + 5), h => absurd h (Nat.not_lt.mpr (Nat.le_add_left _ _))
theorem cp_ok10 : cp_ok 10 := ⟨by decide, cp_uws cp_lay10, by decide +kernel, by decide +kernel, cp_in (List.mem_append_right _ (List.mem_append_right _ (List.mem_append_right _ (List.mem_append_left _ (List.mem_of_getElem? (i := 133) rfl))))) rfl, cp_in (List.mem_append_left _ (List.mem_of_getElem? (i := 20) rfl)) rfl⟩
theorem cp_lay11 : ∀ k, k < 86 → u_lay (cp_R 11) (cp_F 11) k ∈ cp_WS := fun k hk => match k, hk with
  | 0, _ => cp_in (List.mem_append_right _ (List.mem_append_right _ (List.mem_append_right _ (List.mem_append_right _ (List.mem_append_left _ (List.mem_of_getElem? (i := 113) rfl)))))) rfl
  | 1, _ => cp_in (List.mem_append_right _ (List.mem_append_right _ (List.mem_append_right _ (List.mem_append_right _ (List.mem_append_left _ (List.mem_of_getElem? (i := 115) rfl)))))) rfl
  | 2, _ => cp_in (List.mem_append_right _ (List.mem_append_right _ (List.mem_append_right _ (List.mem_append_right _ (List.mem_append_left _ (List.mem_of_getElem? (i := 117) rfl)))))) rfl
  | 3, _ => cp_in (List.mem_append_right _ (List.mem_append_right _ (List.mem_append_right _ (List.mem_append_right _ (List.mem_append_left _ (List.mem_of_getElem? (i := 119) rfl)))))) rfl
  | 4, _ => cp_in (List.mem_append_right _ (List.mem_append_right _ (List.mem_append_right _ (List.mem_append_right _ (List.mem_append_left _ (List.mem_of_getElem? (i := 121) rfl)))))) rfl
  | 5, _ => cp_in (List.mem_append_right _ (List.mem_append_right _ (List.mem_append_right _ (List.mem_append_right _ (List.mem_append_left _ (List.mem_of_getElem? (i := 123) rfl)))))) rfl
  | 6, _ => cp_in (List.mem_append_right _ (List.mem_append_right _ (List.mem_append_right _ (List.mem_append_right _ (List.mem_append_left _ (List.mem_of_getElem? (i := 125) rfl)))))) rfl
  | 7, _ => cp_in (List.mem_append_right _ (List.mem_append_right _ (List.mem_append_right _ (List.mem_append_right _ (List.mem_append_left _ (List.mem_of_getElem? (i := 127) rfl)))))) rfl
  | 8, _ => cp_in (List.mem_append_right _ (List.mem_append_right _ (List.mem_append_right _ (List.mem_append_right _ (List.mem_append_left _ (List.mem_of_getElem? (i := 129) rfl)))))) rfl
  | 9, _ => cp_in (List.mem_append_right _ (List.mem_append_right _ (List.mem_append_right _ (List.mem_append_right _ (List.mem_append_left _ (List.mem_of_getElem? (i := 131) rfl)))))) rfl
  | 10, _ => cp_in (List.mem_append_right _ (List.mem_append_right _ (List.mem_append_right _ (List.mem_append_right _ (List.mem_append_left _ (List.mem_of_getElem? (i := 133) rfl)))))) rfl
  | 11, _ => cp_in (List.mem_append_right _ (List.mem_append_right _ (List.mem_append_right _ (List.mem_append_right _ (List.mem_append_left _ (List.mem_of_getElem? (i := 135) rfl)))))) rfl
  | 12, _ => cp_in (List.mem_append_right _ (List.mem_append_right _ (List.mem_append_right _ (List.mem_append_right _ (List.mem_append_left _ (List.mem_of_getElem? (i := 137) rfl)))))) rfl
  | 13, _ => cp_in (List.mem_append_right _ (List.mem_append_right _ (List.mem_append_right _ (List.mem_append_right _ (List.mem_append_left _ (List.mem_of_getElem? (i := 139) rfl)))))) rfl
  | 14, _ => cp_in (List.mem_append_right _ (List.mem_append_right _ (List.mem_append_right _ (List.mem_append_right _ (List.mem_append_left _ (List.mem_of_getElem? (i := 141) rfl)))))) rfl
  | 15, _ => cp_in (List.mem_append_right _ (List.mem_append_right _ (List.mem_append_right _ (List.mem_append_right _ (List.mem_append_left _ (List.mem_of_getElem? (i := 143) rfl)))))) rfl
  | 16, _ => cp_in (List.mem_append_right _ (List.mem_append_right _ (List.mem_append_right _ (List.mem_append_right _ (List.mem_append_left _ (List.mem_of_getElem? (i := 145) rfl)))))) rfl
  | 17, _ => cp_in (List.mem_append_right _ (List.mem_append_right _ (List.mem_append_right _ (List.mem_append_right _ (List.mem_append_left _ (List.mem_of_getElem? (i := 147) rfl)))))) rfl
  | 18, _ => cp_in (List.mem_append_right _ (List.mem_append_right _ (List.mem_append_right _ (List.mem_append_right _ (List.mem_append_left _ (List.mem_of_getElem? (i := 149) rfl)))))) rfl
  | 19, _ => cp_in (List.mem_append_right _ (List.mem_append_right _ (List.mem_append_right _ (List.mem_append_right _ (List.mem_append_left _ (List.mem_of_getElem? (i := 151) rfl)))))) rfl
  | 20, _ => cp_in (List.mem_append_right _ (List.mem_append_right _ (List.mem_append_right _ (List.mem_append_right _ (List.mem_append_left _ (List.mem_of_getElem? (i := 153) rfl)))))) rfl
  | 21, _ => cp_in (List.mem_append_right _ (List.mem_append_right _ (List.mem_append_right _ (List.mem_append_right _ (List.mem_append_left _ (List.mem_of_getElem? (i := 155) rfl)))))) rfl
  | 22, _ => cp_in (List.mem_append_right _ (List.mem_append_right _ (List.mem_append_right _ (List.mem_append_right _ (List.mem_append_left _ (List.mem_of_getElem? (i := 157) rfl)))))) rfl
  | 23, _ => cp_in (List.mem_append_right _ (List.mem_append_right _ (List.mem_append_right _ (List.mem_append_right _ (List.mem_append_left _ (List.mem_of_getElem? (i := 159) rfl)))))) rfl
  | 24, _ => cp_in (List.mem_append_right _ (List.mem_append_right _ (List.mem_append_right _ (List.mem_append_right _ (List.mem_append_left _ (List.mem_of_getElem? (i := 161) rfl)))))) rfl
  | 25, _ => cp_in (List.mem_append_right _ (List.mem_append_right _ (List.mem_append_right _ (List.mem_append_right _ (List.mem_append_left _ (List.mem_of_getElem? (i := 163) rfl)))))) rfl
  | 26, _ => cp_in (List.mem_append_right _ (List.mem_append_right _ (List.mem_append_right _ (List.mem_append_right _ (List.mem_append_left _ (List.mem_of_getElem? (i := 165) rfl)))))) rfl
  | 27, _ => cp_in (List.mem_append_right _ (List.mem_append_right _ (List.mem_append_right _ (List.mem_append_right _ (List.mem_append_left _ (List.mem_of_getElem? (i := 167) rfl)))))) rfl
  | 28, _ => cp_in (List.mem_append_right _ (List.mem_append_right _ (List.mem_append_right _ (List.mem_append_right _ (List.mem_append_left _ (List.mem_of_getElem? (i := 169) rfl)))))) rfl
  | 29, _ => cp_in (List.mem_append_right _ (List.mem_append_right _ (List.mem_append_right _ (List.mem_append_right _ (List.mem_append_left _ (List.mem_of_getElem? (i := 171) rfl)))))) rfl
  | 30, _ => cp_in (List.mem_append_right _ (List.mem_append_right _ (List.mem_append_right _ (List.mem_append_right _ (List.mem_append_left _ (List.mem_of_getElem? (i := 173) rfl)))))) rfl
  | 31, _ => cp_in (List.mem_append_right _ (List.mem_append_right _ (List.mem_append_right _ (List.mem_append_right _ (List.mem_append_left _ (List.mem_of_getElem? (i := 175) rfl)))))) rfl
  | 32, _ => cp_in (List.mem_append_right _ (List.mem_append_right _ (List.mem_append_right _ (List.mem_append_right _ (List.mem_append_left _ (List.mem_of_getElem? (i := 177) rfl)))))) rfl
  | 33, _ => cp_in (List.mem_append_right _ (List.mem_append_right _ (List.mem_append_right _ (List.mem_append_right _ (List.mem_append_left _ (List.mem_of_getElem? (i := 179) rfl)))))) rfl
  | 34, _ => cp_in (List.mem_append_right _ (List.mem_append_right _ (List.mem_append_right _ (List.mem_append_right _ (List.mem_append_left _ (List.mem_of_getElem? (i := 181) rfl)))))) rfl
  | 35, _ => cp_in (List.mem_append_right _ (List.mem_append_right _ (List.mem_append_right _ (List.mem_append_right _ (List.mem_append_left _ (List.mem_of_getElem? (i := 183) rfl)))))) rfl
  | 36, _ => cp_in (List.mem_append_right _ (List.mem_append_right _ (List.mem_append_right _ (List.mem_append_right _ (List.mem_append_left _ (List.mem_of_getElem? (i := 185) rfl)))))) rfl
  | 37, _ => cp_in (List.mem_append_right _ (List.mem_append_right _ (List.mem_append_right _ (List.mem_append_right _ (List.mem_append_left _ (List.mem_of_getElem? (i := 187) rfl)))))) rfl
  | 38, _ => cp_in (List.mem_append_right _ (List.mem_append_right _ (List.mem_append_right _ (List.mem_append_right _ (List.mem_append_left _ (List.mem_of_getElem? (i := 189) rfl)))))) rfl
  | 39, _ => cp_in (List.mem_append_right _ (List.mem_append_right _ (List.mem_append_right _ (List.mem_append_right _ (List.mem_append_left _ (List.mem_of_getElem? (i := 191) rfl)))))) rfl
  | 40, _ => cp_in (List.mem_append_right _ (List.mem_append_right _ (List.mem_append_right _ (List.mem_append_right _ (List.mem_append_left _ (List.mem_of_getElem? (i := 193) rfl)))))) rfl
  | 41, _ => cp_in (List.mem_append_right _ (List.mem_append_right _ (List.mem_append_right _ (List.mem_append_right _ (List.mem_append_left _ (List.mem_of_getElem? (i := 195) rfl)))))) rfl
  | 42, _ => cp_in (List.mem_append_right _ (List.mem_append_right _ (List.mem_append_right _ (List.mem_append_right _ (List.mem_append_left _ (List.mem_of_getElem? (i := 197) rfl)))))) rfl
  | 43, _ => cp_in (List.mem_append_right _ (List.mem_append_right _ (List.mem_append_right _ (List.mem_append_right _ (List.mem_append_left _ (List.mem_of_getElem? (i := 199) rfl)))))) rfl
  | 44, _ => cp_in (List.mem_append_right _ (List.mem_append_right _ (List.mem_append_right _ (List.mem_append_right _ (List.mem_append_left _ (List.mem_of_getElem? (i := 201) rfl)))))) rfl
  | 45, _ => cp_in (List.mem_append_right _ (List.mem_append_right _ (List.mem_append_right _ (List.mem_append_right _ (List.mem_append_left _ (List.mem_of_getElem? (i := 203) rfl)))))) rfl
  | 46, _ => cp_in (List.mem_append_right _ (List.mem_append_right _ (List.mem_append_right _ (List.mem_append_right _ (List.mem_append_left _ (List.mem_of_getElem? (i := 205) rfl)))))) rfl
  | 47, _ => cp_in (List.mem_append_right _ (List.mem_append_right _ (List.mem_append_right _ (List.mem_append_right _ (List.mem_append_left _ (List.mem_of_getElem? (i := 207) rfl)))))) rfl
  | 48, _ => cp_in (List.mem_append_right _ (List.mem_append_right _ (List.mem_append_right _ (List.mem_append_right _ (List.mem_append_left _ (List.mem_of_getElem? (i := 209) rfl)))))) rfl
  | 49, _ => cp_in (List.mem_append_right _ (List.mem_append_right _ (List.mem_append_right _ (List.mem_append_right _ (List.mem_append_left _ (List.mem_of_getElem? (i := 211) rfl)))))) rfl
  | 50, _ => cp_in (List.mem_append_right _ (List.mem_append_right _ (List.mem_append_right _ (List.mem_append_right _ (List.mem_append_left _ (List.mem_of_getElem? (i := 213) rfl)))))) rfl
  | 51, _ => cp_in (List.mem_append_right _ (List.mem_append_right _ (List.mem_append_right _ (List.mem_append_right _ (List.mem_append_left _ (List.mem_of_getElem? (i := 215) rfl)))))) rfl
  | 52, _ => cp_in (List.mem_append_right _ (List.mem_append_right _ (List.mem_append_right _ (List.mem_append_right _ (List.mem_append_left _ (List.mem_of_getElem? (i := 217) rfl)))))) rfl
  | 53, _ => cp_in (List.mem_append_right _ (List.mem_append_right _ (List.mem_append_right _ (List.mem_append_right _ (List.mem_append_left _ (List.mem_of_getElem? (i := 219) rfl)))))) rfl
  | 54, _ => cp_in (List.mem_append_right _ (List.mem_append_right _ (List.mem_append_right _ (List.mem_append_right _ (List.mem_append_left _ (List.mem_of_getElem? (i := 221) rfl)))))) rfl
  | 55, _ => cp_in (List.mem_append_right _ (List.mem_append_right _ (List.mem_append_right _ (List.mem_append_right _ (List.mem_append_left _ (List.mem_of_getElem? (i := 223) rfl)))))) rfl
  | 56, _ => cp_in (List.mem_append_right _ (List.mem_append_right _ (List.mem_append_right _ (List.mem_append_right _ (List.mem_append_left _ (List.mem_of_getElem? (i := 225) rfl)))))) rfl
  | 57, _ => cp_in (List.mem_append_right _ (List.mem_append_right _ (List.mem_append_right _ (List.mem_append_right _ (List.mem_append_left _ (List.mem_of_getElem? (i := 227) rfl)))))) rfl
  | 58, _ => cp_in (List.mem_append_right _ (List.mem_append_right _ (List.mem_append_right _ (List.mem_append_right _ (List.mem_append_left _ (List.mem_of_getElem? (i := 229) rfl)))))) rfl
  | 59, _ => cp_in (List.mem_append_right _ (List.mem_append_right _ (List.mem_append_right _ (List.mem_append_right _ (List.mem_append_left _ (List.mem_of_getElem? (i := 231) rfl)))))) rfl
  | 60, _ => cp_in (List.mem_append_right _ (List.mem_append_right _ (List.mem_append_right _ (List.mem_append_right _ (List.mem_append_left _ (List.mem_of_getElem? (i := 233) rfl)))))) rfl
  | 61, _ => cp_in (List.mem_append_right _ (List.mem_append_right _ (List.mem_append_right _ (List.mem_append_right _ (List.mem_append_left _ (List.mem_of_getElem? (i := 235) rfl)))))) rfl
  | 62, _ => cp_in (List.mem_append_right _ (List.mem_append_right _ (List.mem_append_right _ (List.mem_append_right _ (List.mem_append_left _ (List.mem_of_getElem? (i := 237) rfl)))))) rfl
  | 63, _ => cp_in (List.mem_append_right _ (List.mem_append_right _ (List.mem_append_right _ (List.mem_append_right _ (List.mem_append_left _ (List.mem_of_getElem? (i := 239) rfl)))))) rfl
  | 64, _ => cp_in (List.mem_append_right _ (List.mem_append_right _ (List.mem_append_right _ (List.mem_append_right _ (List.mem_append_right _ (List.mem_append_left _ (List.mem_of_getElem? (i := 1) rfl))))))) rfl
  | 65, _ => cp_in (List.mem_append_right _ (List.mem_append_right _ (List.mem_append_right _ (List.mem_append_right _ (List.mem_append_right _ (List.mem_append_left _ (List.mem_of_getElem? (i := 3) rfl))))))) rfl
  | 66, _ => cp_in (List.mem_append_right _ (List.mem_append_right _ (List.mem_append_right _ (List.mem_append_right _ (List.mem_append_right _ (List.mem_append_left _ (List.mem_of_getElem? (i := 5) rfl))))))) rfl
  | 67, _ => cp_in (List.mem_append_right _ (List.mem_append_right _ (List.mem_append_right _ (List.mem_append_right _ (List.mem_append_right _ (List.mem_append_left _ (List.mem_of_getElem? (i := 7) rfl))))))) rfl
  | 68, _ => cp_in (List.mem_append_right _ (List.mem_append_right _ (List.mem_append_right _ (List.mem_append_right _ (List.mem_append_right _ (List.mem_append_left _ (List.mem_of_getElem? (i := 9) rfl))))))) rfl
  | 69, _ => cp_in (List.mem_append_right _ (List.mem_append_right _ (List.mem_append_right _ (List.mem_append_right _ (List.mem_append_right _ (List.mem_append_left _ (List.mem_of_getElem? (i := 11) rfl))))))) rfl
  | 70, _ => cp_in (List.mem_append_right _ (List.mem_append_right _ (List.mem_append_right _ (List.mem_append_right _ (List.mem_append_right _ (List.mem_append_left _ (List.mem_of_getElem? (i := 13) rfl))))))) rfl
  | 71, _ => cp_in (List.mem_append_right _ (List.mem_append_right _ (List.mem_append_right _ (List.mem_append_right _ (List.mem_append_right _ (List.mem_append_left _ (List.mem_of_getElem? (i := 15) rfl))))))) rfl
  | 72, _ => cp_in (List.mem_append_right _ (List.mem_append_right _ (List.mem_append_right _ (List.mem_append_right _ (List.mem_append_right _ (List.mem_append_left _ (List.mem_of_getElem? (i := 17) rfl))))))) rfl
  | 73, _ => cp_in (List.mem_append_right _ (List.mem_append_right _ (List.mem_append_right _ (List.mem_append_right _ (List.mem_append_right _ (List.mem_append_left _ (List.mem_of_getElem? (i := 19) rfl))))))) rfl
  | 74, _ => cp_in (List.mem_append_right _ (List.mem_append_right _ (List.mem_append_right _ (List.mem_append_right _ (List.mem_append_right _ (List.mem_append_left _ (List.mem_of_getElem? (i := 21) rfl))))))) rfl
  | 75, _ => cp_in (List.mem_append_right _ (List.mem_append_right _ (List.mem_append_right _ (List.mem_append_right _ (List.mem_append_right _ (List.mem_append_left _ (List.mem_of_getElem? (i := 23) rfl))))))) rfl
  | 76, _ => cp_in (List.mem_append_right _ (List.mem_append_right _ (List.mem_append_right _ (List.mem_append_right _ (List.mem_append_right _ (List.mem_append_left _ (List.mem_of_getElem? (i := 25) rfl))))))) rfl
  | 77, _ => cp_in (List.mem_append_right _ (List.mem_append_right _ (List.mem_append_right _ (List.mem_append_right _ (List.mem_append_right _ (List.mem_append_left _ (List.mem_of_getElem? (i := 27) rfl))))))) rfl
  | 78, _ => cp_in (List.mem_append_right _ (List.mem_append_right _ (List.mem_append_right _ (List.mem_append_right _ (List.mem_append_right _ (List.mem_append_left _ (List.mem_of_getElem? (i := 29) rfl))))))) rfl
  | 79, _ => cp_in (List.mem_append_right _ (List.mem_append_right _ (List.mem_append_right _ (List.mem_append_right _ (List.mem_append_right _ (List.mem_append_left _ (List.mem_of_getElem? (i := 31) rfl))))))) rfl
  | 80, _ => cp_in (List.mem_append_right _ (List.mem_append_right _ (List.mem_append_right _ (List.mem_append_right _ (List.mem_append_right _ (List.mem_append_left _ (List.mem_of_getElem? (i := 33) rfl))))))) rfl
  | 81, _ => cp_in (List.mem_append_right _ (List.mem_append_right _ (List.mem_append_right _ (List.mem_append_right _ (List.mem_append_right _ (List.mem_append_left _ (List.mem_of_getElem? (i := 35) rfl))))))) rfl
  | 82, _ => cp_in (List.mem_append_right _ (List.mem_append_right _ (List.mem_append_right _ (List.mem_append_right _ (List.mem_append_right _ (List.mem_append_left _ (List.mem_of_getElem? (i := 37) rfl))))))) rfl
  | 83, _ => cp_in (List.mem_append_right _ (List.mem_append_right _ (List.mem_append_right _ (List.mem_append_right _ (List.mem_append_right _ (List.mem_append_left _ (List.mem_of_getElem? (i := 39) rfl))))))) rfl
  | 84, _ => cp_in (List.mem_append_right _ (List.mem_append_right _ (List.mem_append_right _ (List.mem_append_right _ (List.mem_append_right _ (List.mem_append_left _ (List.mem_of_getElem? (i := 41) rfl))))))) rfl
  | 85, _ => cp_in (List.mem_append_right _ (List.mem_append_right _ (List.mem_append_right _ (List.mem_append_right _ (List.mem_append_right _ (List.mem_append_left _ (List.mem_of_getElem? (i := 43) rfl))))))) rfl
  | (n + 86), h => absurd h (Nat.not_lt.mpr (Nat.le_add_left _ _))
theorem cp_ok11 : cp_ok 11 := ⟨by decide, cp_uws cp_lay11, by decide +kernel, by decide +kernel, cp_in (List.mem_append_right _ (List.mem_append_right _ (List.mem_append_right _ (List.mem_append_right _ (List.mem_append_left _ (List.mem_of_getElem? (i := 22) rfl)))))) rfl, cp_in (List.mem_append_left _ (List.mem_of_getElem? (i := 11) rfl)) rfl⟩
theorem cp_lay12 : ∀ k, k < 6 → u_lay (cp_R 12) (cp_F 12) k ∈ cp_WS := fun k hk => match k, hk with
  | 0, _ => cp_in (List.mem_append_right _ (List.mem_append_right _ (List.mem_append_right _ (List.mem_append_left _ (List.mem_of_getElem? (i := 31) rfl))))) rfl
  | 1, _ => cp_in (List.mem_append_right _ (List.mem_append_right _ (List.mem_append_right _ (List.mem_append_left _ (List.mem_of_getElem? (i := 33) rfl))))) rfl
  | 2, _ => cp_in (List.mem_append_right _ (List.mem_append_right _ (List.mem_append_right _ (List.mem_append_left _ (List.mem_of_getElem? (i := 35) rfl))))) rfl
  | 3, _ => cp_in (List.mem_append_right _ (List.mem_append_right _ (List.mem_append_right _ (List.mem_append_left _ (List.mem_of_getElem? (i := 37) rfl))))) rfl
  | 4, _ => cp_in (List.mem_append_right _ (List.mem_append_right _ (List.mem_append_right _ (List.mem_append_left _ (List.mem_of_getElem? (i := 39) rfl))))) rfl
  | 5, _ => cp_in (List.mem_append_right _ (List.mem_append_right _ (List.mem_append_right _ (List.mem_append_left _ (List.mem_of_getElem? (i := 82) rfl))))) rfl
  | (n + 6), h => absurd h (Nat.not_lt.mpr (Nat.le_add_left _ _))
theorem cp_ok12 : cp_ok 12 := ⟨by decide, cp_uws cp_lay12, by decide +kernel, by decide +kernel, cp_in (List.mem_append_right _ (List.mem_append_right _ (List.mem_append_right _ (List.mem_append_left _ (List.mem_of_getElem? (i := 21) rfl))))) rfl, cp_in (List.mem_append_left _ (List.mem_of_getElem? (i := 15) rfl)) rfl⟩
theorem cp_lay13 : ∀ k, k < 6 → u_lay (cp_R 13) (cp_F 13) k ∈ cp_WS := fun k hk => match k, hk with
  | 0, _ => cp_in (List.mem_append_right _ (List.mem_append_right _ (List.mem_append_right _ (List.mem_append_left _ (List.mem_of_getElem? (i := 91) rfl))))) rfl
  | 1, _ => cp_in (List.mem_append_right _ (List.mem_append_right _ (List.mem_append_right _ (List.mem_append_left _ (List.mem_of_getElem? (i := 92) rfl))))) rfl
  | 2, _ => cp_in (List.mem_append_right _ (List.mem_append_right _ (List.mem_append_right _ (List.mem_append_left _ (List.mem_of_getElem? (i := 93) rfl))))) rfl
  | 3, _ => cp_in (List.mem_append_right _ (List.mem_append_right _ (List.mem_append_right _ (List.mem_append_left _ (List.mem_of_getElem? (i := 94) rfl))))) rfl
  | 4, _ => cp_in (List.mem_append_right _ (List.mem_append_right _ (List.mem_append_right _ (List.mem_append_left _ (List.mem_of_getElem? (i := 95) rfl))))) rfl
  | 5, _ => cp_in (List.mem_append_right _ (List.mem_append_right _ (List.mem_append_right _ (List.mem_append_left _ (List.mem_of_getElem? (i := 101) rfl))))) rfl
  | (n + 6), h => absurd h (Nat.not_lt.mpr (Nat.le_add_left _ _))
theorem cp_ok13 : cp_ok 13 := ⟨by decide, cp_uws cp_lay13, by decide +kernel, by decide +kernel, cp_in (List.mem_append_right _ (List.mem_append_right _ (List.mem_append_right _ (List.mem_append_left _ (List.mem_of_getElem? (i := 88) rfl))))) rfl, cp_in (List.mem_append_left _ (List.mem_of_getElem? (i := 16) rfl)) rfl⟩
