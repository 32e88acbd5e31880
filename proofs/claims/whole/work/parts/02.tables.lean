/-! tables: the classes and array classes of the system, by number; the words that hold at every method's entry -/
def bm_Ts : List Cond := lw_tbl.filter goodWord
theorem bm_in {w : Cond} (i : Nat) (h : lw_tbl[i]? = some w) (g : goodWord w = true) : w ∈ bm_Ts := List.mem_filter.mpr ⟨List.mem_of_getElem? h, g⟩
theorem bm_ins {ws : List Cond} (ps : List Nat) (hp : ws = ps.filterMap (fun i => lw_tbl[i]?)) (h : ws.all goodWord = true) : ∀ w ∈ ws, w ∈ bm_Ts := by
  intro w hw
  have h1 := List.all_eq_true.mp h w hw
  rw [hp] at hw
  obtain ⟨i, -, hi⟩ := List.mem_filterMap.mp hw
  exact bm_in i hi h1
def tT_H : u_T := fun k => match k with
  | 0 => ("BatchHall", "recipes", "[LBatchHall$Recipe;", true)
  | 1 => ("BatchHall", "batches", "[LBatchHall$Batch;", true)
  | 2 => ("BatchHall", "batchCount", "I", false)
  | 3 => ("BatchHall", "releaseCheck", "LBatchHall$ReleaseCheck;", true)
  | 4 => ("BatchHall", "floor", "LBatchHall$Floor;", true)
  | 5 => ("BatchHall", "units", "[LBatchHall$Unit;", true)
  | _ => ("BatchHall", "book", "LBatchHall$LotBook;", true)
def ty_H : Nat → FieldType := fun k => match k with
  | 0 => .array (.object "BatchHall$Recipe")
  | 1 => .array (.object "BatchHall$Batch")
  | 2 => .int
  | 3 => .object "BatchHall$ReleaseCheck"
  | 4 => .object "BatchHall$Floor"
  | 5 => .array (.object "BatchHall$Unit")
  | _ => .object "BatchHall$LotBook"
theorem nm_H : ∀ a, a < 7 → ∀ b, b < 7 → a ≠ b → (tT_H a).2.1 ≠ (tT_H b).2.1 := by decide +kernel
theorem tk_H : ∀ k, k < 7 → parseFieldDescriptor (tT_H k).2.2.1 = some (ty_H k) := by decide +kernel
theorem uw_H : ∀ w ∈ u_ws "BatchHall" tT_H 7, w ∈ bm_Ts := bm_ins [267, 269, 271, 273, 275, 277, 279] (by decide +kernel) (by decide +kernel)
def tT_B : u_T := fun k => match k with
  | 0 => ("BatchHall$Batch", "number", "I", true)
  | 1 => ("BatchHall$Batch", "recipeNumber", "I", true)
  | 2 => ("BatchHall$Batch", "recipe", "LBatchHall$Recipe;", true)
  | 3 => ("BatchHall$Batch", "size", "I", true)
  | 4 => ("BatchHall$Batch", "state", "I", false)
  | 5 => ("BatchHall$Batch", "tokenCount", "I", false)
  | 6 => ("BatchHall$Batch", "tokens", "[LBatchHall$Token;", true)
  | 7 => ("BatchHall$Batch", "values", "[I", true)
  | 8 => ("BatchHall$Batch", "rounds", "[I", true)
  | _ => ("BatchHall$Batch", "owned", "[I", true)
def ty_B : Nat → FieldType := fun k => match k with
  | 0 => .int
  | 1 => .int
  | 2 => .object "BatchHall$Recipe"
  | 3 => .int
  | 4 => .int
  | 5 => .int
  | 6 => .array (.object "BatchHall$Token")
  | 7 => .array (.int)
  | 8 => .array (.int)
  | _ => .array (.int)
theorem nm_B : ∀ a, a < 10 → ∀ b, b < 10 → a ≠ b → (tT_B a).2.1 ≠ (tT_B b).2.1 := by decide +kernel
theorem tk_B : ∀ k, k < 10 → parseFieldDescriptor (tT_B k).2.2.1 = some (ty_B k) := by decide +kernel
theorem uw_B : ∀ w ∈ u_ws "BatchHall$Batch" tT_B 10, w ∈ bm_Ts := bm_ins [861, 863, 865, 867, 869, 871, 873, 875, 877, 879] (by decide +kernel) (by decide +kernel)
def tT_F : u_T := fun k => match k with
  | 0 => ("BatchHall$Floor", "units", "[LBatchHall$Unit;", true)
  | 1 => ("BatchHall$Floor", "book", "LBatchHall$LotBook;", true)
  | 2 => ("BatchHall$Floor", "mover", "LBatchHall$Mover;", true)
  | 3 => ("BatchHall$Floor", "line", "[LBatchHall$Batch;", true)
  | 4 => ("BatchHall$Floor", "lineCount", "I", false)
  | _ => ("BatchHall$Floor", "blocked", "[I", true)
def ty_F : Nat → FieldType := fun k => match k with
  | 0 => .array (.object "BatchHall$Unit")
  | 1 => .object "BatchHall$LotBook"
  | 2 => .object "BatchHall$Mover"
  | 3 => .array (.object "BatchHall$Batch")
  | 4 => .int
  | _ => .array (.int)
theorem nm_F : ∀ a, a < 6 → ∀ b, b < 6 → a ≠ b → (tT_F a).2.1 ≠ (tT_F b).2.1 := by decide +kernel
theorem tk_F : ∀ k, k < 6 → parseFieldDescriptor (tT_F k).2.2.1 = some (ty_F k) := by decide +kernel
theorem uw_F : ∀ w ∈ u_ws "BatchHall$Floor" tT_F 6, w ∈ bm_Ts := bm_ins [219, 221, 223, 225, 227, 229] (by decide +kernel) (by decide +kernel)
def tT_L : u_T := fun k => match k with
  | 0 => ("BatchHall$Lot", "batchNumber", "I", true)
  | 1 => ("BatchHall$Lot", "stepNumber", "I", true)
  | 2 => ("BatchHall$Lot", "parts", "[I", false)
  | 3 => ("BatchHall$Lot", "partAmounts", "[I", false)
  | _ => ("BatchHall$Lot", "uses", "I", false)
def ty_L : Nat → FieldType := fun k => match k with
  | 0 => .int
  | 1 => .int
  | 2 => .array (.int)
  | 3 => .array (.int)
  | _ => .int
theorem nm_L : ∀ a, a < 5 → ∀ b, b < 5 → a ≠ b → (tT_L a).2.1 ≠ (tT_L b).2.1 := by decide +kernel
theorem tk_L : ∀ k, k < 5 → parseFieldDescriptor (tT_L k).2.2.1 = some (ty_L k) := by decide +kernel
theorem uw_L : ∀ w ∈ u_ws "BatchHall$Lot" tT_L 5, w ∈ bm_Ts := bm_ins [445, 447, 449, 451, 453] (by decide +kernel) (by decide +kernel)
def tT_K : u_T := fun k => match k with
  | 0 => ("BatchHall$LotBook", "count", "I", false)
  | 1 => ("BatchHall$LotBook", "all", "[LBatchHall$Lot;", true)
  | _ => ("BatchHall$LotBook", "marks", "[I", true)
def ty_K : Nat → FieldType := fun k => match k with
  | 0 => .int
  | 1 => .array (.object "BatchHall$Lot")
  | _ => .array (.int)
theorem nm_K : ∀ a, a < 3 → ∀ b, b < 3 → a ≠ b → (tT_K a).2.1 ≠ (tT_K b).2.1 := by decide +kernel
theorem tk_K : ∀ k, k < 3 → parseFieldDescriptor (tT_K k).2.2.1 = some (ty_K k) := by decide +kernel
theorem uw_K : ∀ w ∈ u_ws "BatchHall$LotBook" tT_K 3, w ∈ bm_Ts := bm_ins [155, 157, 159] (by decide +kernel) (by decide +kernel)
def tT_V : u_T := fun k => match k with
  | 0 => ("BatchHall$Mover", "shares", "[I", true)
  | _ => ("BatchHall$Mover", "rests", "[I", true)
def ty_V : Nat → FieldType := fun k => match k with
  | 0 => .array (.int)
  | _ => .array (.int)
theorem nm_V : ∀ a, a < 2 → ∀ b, b < 2 → a ≠ b → (tT_V a).2.1 ≠ (tT_V b).2.1 := by decide +kernel
theorem tk_V : ∀ k, k < 2 → parseFieldDescriptor (tT_V k).2.2.1 = some (ty_V k) := by decide +kernel
theorem uw_V : ∀ w ∈ u_ws "BatchHall$Mover" tT_V 2, w ∈ bm_Ts := bm_ins [170, 172] (by decide +kernel) (by decide +kernel)
def tT_R : u_T := fun k => match k with
  | 0 => ("BatchHall$Recipe", "released", "Z", false)
  | 1 => ("BatchHall$Recipe", "stepCount", "I", false)
  | 2 => ("BatchHall$Recipe", "groups", "[I", true)
  | _ => ("BatchHall$Recipe", "steps", "[LBatchHall$Step;", true)
def ty_R : Nat → FieldType := fun k => match k with
  | 0 => .boolean
  | 1 => .int
  | 2 => .array (.int)
  | _ => .array (.object "BatchHall$Step")
theorem nm_R : ∀ a, a < 4 → ∀ b, b < 4 → a ≠ b → (tT_R a).2.1 ≠ (tT_R b).2.1 := by decide +kernel
theorem tk_R : ∀ k, k < 4 → parseFieldDescriptor (tT_R k).2.2.1 = some (ty_R k) := by decide +kernel
theorem uw_R : ∀ w ∈ u_ws "BatchHall$Recipe" tT_R 4, w ∈ bm_Ts := bm_ins [251, 253, 255, 257] (by decide +kernel) (by decide +kernel)
def tT_C : u_T := fun k => match k with
  | 0 => ("BatchHall$ReleaseCheck", "reached", "[I", true)
  | 1 => ("BatchHall$ReleaseCheck", "branchOf", "[I", true)
  | 2 => ("BatchHall$ReleaseCheck", "forkOfJoin", "[I", true)
  | 3 => ("BatchHall$ReleaseCheck", "joinOfBranch", "[I", true)
  | 4 => ("BatchHall$ReleaseCheck", "namesBefore", "[I", true)
  | _ => ("BatchHall$ReleaseCheck", "namesAtBranchEnd", "[I", true)
def ty_C : Nat → FieldType := fun k => match k with
  | 0 => .array (.int)
  | 1 => .array (.int)
  | 2 => .array (.int)
  | 3 => .array (.int)
  | 4 => .array (.int)
  | _ => .array (.int)
theorem nm_C : ∀ a, a < 6 → ∀ b, b < 6 → a ≠ b → (tT_C a).2.1 ≠ (tT_C b).2.1 := by decide +kernel
theorem tk_C : ∀ k, k < 6 → parseFieldDescriptor (tT_C k).2.2.1 = some (ty_C k) := by decide +kernel
theorem uw_C : ∀ w ∈ u_ws "BatchHall$ReleaseCheck" tT_C 6, w ∈ bm_Ts := bm_ins [120, 122, 124, 126, 128, 130] (by decide +kernel) (by decide +kernel)
def tT_S : u_T := fun k => match k with
  | 0 => ("BatchHall$Step", "kind", "I", true)
  | 1 => ("BatchHall$Step", "a", "I", true)
  | 2 => ("BatchHall$Step", "b", "I", true)
  | 3 => ("BatchHall$Step", "c", "I", true)
  | 4 => ("BatchHall$Step", "next", "I", false)
  | _ => ("BatchHall$Step", "other", "I", false)
def ty_S : Nat → FieldType := fun k => match k with
  | 0 => .int
  | 1 => .int
  | 2 => .int
  | 3 => .int
  | 4 => .int
  | _ => .int
theorem nm_S : ∀ a, a < 6 → ∀ b, b < 6 → a ≠ b → (tT_S a).2.1 ≠ (tT_S b).2.1 := by decide +kernel
theorem tk_S : ∀ k, k < 6 → parseFieldDescriptor (tT_S k).2.2.1 = some (ty_S k) := by decide +kernel
theorem uw_S : ∀ w ∈ u_ws "BatchHall$Step" tT_S 6, w ∈ bm_Ts := bm_ins [332, 334, 336, 338, 340, 342] (by decide +kernel) (by decide +kernel)
def tT_T : u_T := fun k => match k with
  | 0 => ("BatchHall$Token", "at", "I", false)
  | 1 => ("BatchHall$Token", "begun", "Z", false)
  | 2 => ("BatchHall$Token", "left", "I", false)
  | _ => ("BatchHall$Token", "lot", "I", false)
def ty_T : Nat → FieldType := fun k => match k with
  | 0 => .int
  | 1 => .boolean
  | 2 => .int
  | _ => .int
theorem nm_T : ∀ a, a < 4 → ∀ b, b < 4 → a ≠ b → (tT_T a).2.1 ≠ (tT_T b).2.1 := by decide +kernel
theorem tk_T : ∀ k, k < 4 → parseFieldDescriptor (tT_T k).2.2.1 = some (ty_T k) := by decide +kernel
theorem uw_T : ∀ w ∈ u_ws "BatchHall$Token" tT_T 4, w ∈ bm_Ts := bm_ins [828, 830, 832, 834] (by decide +kernel) (by decide +kernel)
def tT_U : u_T := fun k => match k with
  | 0 => ("BatchHall$Unit", "group", "I", false)
  | 1 => ("BatchHall$Unit", "owner", "I", false)
  | 2 => ("BatchHall$Unit", "lotCount", "I", false)
  | 3 => ("BatchHall$Unit", "lotNumbers", "[I", true)
  | _ => ("BatchHall$Unit", "amounts", "[I", true)
def ty_U : Nat → FieldType := fun k => match k with
  | 0 => .int
  | 1 => .int
  | 2 => .int
  | 3 => .array (.int)
  | _ => .array (.int)
theorem nm_U : ∀ a, a < 5 → ∀ b, b < 5 → a ≠ b → (tT_U a).2.1 ≠ (tT_U b).2.1 := by decide +kernel
theorem tk_U : ∀ k, k < 5 → parseFieldDescriptor (tT_U k).2.2.1 = some (ty_U k) := by decide +kernel
theorem uw_U : ∀ w ∈ u_ws "BatchHall$Unit" tT_U 5, w ∈ bm_Ts := bm_ins [200, 202, 204, 206, 208] (by decide +kernel) (by decide +kernel)
def tT_M : u_T := fun k => match k with
  | 0 => ("BatchHallModel", "thrown", "I", false)
  | 1 => ("BatchHallModel", "group", "[I", true)
  | 2 => ("BatchHallModel", "owner", "[I", true)
  | 3 => ("BatchHallModel", "held", "[I", true)
  | 4 => ("BatchHallModel", "lotIn", "[I", true)
  | 5 => ("BatchHallModel", "amountIn", "[I", true)
  | 6 => ("BatchHallModel", "classOf", "[I", true)
  | 7 => ("BatchHallModel", "many", "[I", true)
  | 8 => ("BatchHallModel", "released", "[Z", true)
  | 9 => ("BatchHallModel", "kind", "[I", true)
  | 10 => ("BatchHallModel", "a", "[I", true)
  | 11 => ("BatchHallModel", "b", "[I", true)
  | 12 => ("BatchHallModel", "c", "[I", true)
  | 13 => ("BatchHallModel", "next", "[I", true)
  | 14 => ("BatchHallModel", "other", "[I", true)
  | 15 => ("BatchHallModel", "batches", "I", false)
  | 16 => ("BatchHallModel", "recipe", "[I", true)
  | 17 => ("BatchHallModel", "size", "[I", true)
  | 18 => ("BatchHallModel", "state", "[I", true)
  | 19 => ("BatchHallModel", "tokens", "[I", true)
  | 20 => ("BatchHallModel", "value", "[I", true)
  | 21 => ("BatchHallModel", "loops", "[I", true)
  | 22 => ("BatchHallModel", "unitFor", "[I", true)
  | 23 => ("BatchHallModel", "at", "[I", true)
  | 24 => ("BatchHallModel", "left", "[I", true)
  | 25 => ("BatchHallModel", "charged", "[I", true)
  | 26 => ("BatchHallModel", "begun", "[Z", true)
  | 27 => ("BatchHallModel", "told", "[Z", true)
  | 28 => ("BatchHallModel", "waiting", "I", false)
  | 29 => ("BatchHallModel", "line", "[I", true)
  | 30 => ("BatchHallModel", "freed", "Z", false)
  | 31 => ("BatchHallModel", "lots", "I", false)
  | 32 => ("BatchHallModel", "rows", "I", false)
  | 33 => ("BatchHallModel", "lotBatch", "[I", true)
  | 34 => ("BatchHallModel", "lotStep", "[I", true)
  | 35 => ("BatchHallModel", "rowFrom", "[I", true)
  | 36 => ("BatchHallModel", "source", "[I", true)
  | 37 => ("BatchHallModel", "sourceAmount", "[I", true)
  | 38 => ("BatchHallModel", "part", "[I", true)
  | 39 => ("BatchHallModel", "rest", "[I", true)
  | 40 => ("BatchHallModel", "marked", "[Z", true)
  | 41 => ("BatchHallModel", "branch", "[I", true)
  | 42 => ("BatchHallModel", "one", "[I", true)
  | 43 => ("BatchHallModel", "two", "[I", true)
  | 44 => ("BatchHallModel", "known", "[I", true)
  | 45 => ("BatchHallModel", "first", "[I", true)
  | 46 => ("BatchHallModel", "second", "[I", true)
  | _ => ("BatchHallModel", "come", "[Z", true)
def ty_M : Nat → FieldType := fun k => match k with
  | 0 => .int
  | 1 => .array (.int)
  | 2 => .array (.int)
  | 3 => .array (.int)
  | 4 => .array (.int)
  | 5 => .array (.int)
  | 6 => .array (.int)
  | 7 => .array (.int)
  | 8 => .array (.boolean)
  | 9 => .array (.int)
  | 10 => .array (.int)
  | 11 => .array (.int)
  | 12 => .array (.int)
  | 13 => .array (.int)
  | 14 => .array (.int)
  | 15 => .int
  | 16 => .array (.int)
  | 17 => .array (.int)
  | 18 => .array (.int)
  | 19 => .array (.int)
  | 20 => .array (.int)
  | 21 => .array (.int)
  | 22 => .array (.int)
  | 23 => .array (.int)
  | 24 => .array (.int)
  | 25 => .array (.int)
  | 26 => .array (.boolean)
  | 27 => .array (.boolean)
  | 28 => .int
  | 29 => .array (.int)
  | 30 => .boolean
  | 31 => .int
  | 32 => .int
  | 33 => .array (.int)
  | 34 => .array (.int)
  | 35 => .array (.int)
  | 36 => .array (.int)
  | 37 => .array (.int)
  | 38 => .array (.int)
  | 39 => .array (.int)
  | 40 => .array (.boolean)
  | 41 => .array (.int)
  | 42 => .array (.int)
  | 43 => .array (.int)
  | 44 => .array (.int)
  | 45 => .array (.int)
  | 46 => .array (.int)
  | _ => .array (.boolean)
theorem nm_M : ∀ a, a < 48 → ∀ b, b < 48 → a ≠ b → (tT_M a).2.1 ≠ (tT_M b).2.1 := by decide +kernel
theorem tk_M : ∀ k, k < 48 → parseFieldDescriptor (tT_M k).2.2.1 = some (ty_M k) := by decide +kernel
theorem uw_M : ∀ w ∈ u_ws "BatchHallModel" tT_M 48, w ∈ bm_Ts := bm_ins [986, 988, 990, 992, 994, 996, 998, 1000, 1002, 1004, 1006, 1008, 1010, 1012, 1014, 1016, 1018, 1020, 1022, 1024, 1026, 1028, 1030, 1032, 1034, 1036, 1038, 1040, 1042, 1044, 1046, 1048, 1050, 1052, 1054, 1056, 1058, 1060, 1062, 1064, 1066, 1068, 1070, 1072, 1074, 1076, 1078, 1080] (by decide +kernel) (by decide +kernel)
def tT_0 : u_T := fun _ => ("", "", "", false)
/-- 0 H 1 B 2 F 3 L 4 K 5 V 6 R 7 C 8 S 9 T 10 U 11 M, then the two exceptions -/
def bm_cl : List vw_C := [("BatchHall", tT_H, 7), ("BatchHall$Batch", tT_B, 10), ("BatchHall$Floor", tT_F, 6), ("BatchHall$Lot", tT_L, 5), ("BatchHall$LotBook", tT_K, 3), ("BatchHall$Mover", tT_V, 2), ("BatchHall$Recipe", tT_R, 4), ("BatchHall$ReleaseCheck", tT_C, 6), ("BatchHall$Step", tT_S, 6), ("BatchHall$Token", tT_T, 4), ("BatchHall$Unit", tT_U, 5), ("BatchHallModel", tT_M, 48), ("java/lang/IllegalArgumentException", tT_0, 0), ("java/lang/IllegalStateException", tT_0, 0)]
/-- 0 int 1 boolean 2 long, then the arrays of references -/
def bm_ft : List FieldType := [.int, .boolean, .long, .object "BatchHall$Recipe", .object "BatchHall$Batch", .object "BatchHall$Unit", .object "BatchHall$Lot", .object "BatchHall$Step", .object "BatchHall$Token"]
def bm_ns : Nat → Nat := fun c => match c with
  | 0 => 7
  | 1 => 10
  | 2 => 6
  | 3 => 5
  | 4 => 3
  | 5 => 2
  | 6 => 4
  | 7 => 6
  | 8 => 6
  | 9 => 4
  | 10 => 5
  | 11 => 48
  | 12 => 6
  | 13 => 6
  | _ => 0
/-- words that hold at every entry too, kept by laws of their own -/
def bm_Nx : List Cond := [(Jvm.Cond.arrayOver (Jvm.ClassFile.FieldType.object "BatchHall$Recipe")), (Jvm.Cond.arrayOver (Jvm.ClassFile.FieldType.object "BatchHall$Batch")), (Jvm.Cond.methodLinkNest "BatchHall" (23 : Nat) ({ cls := "BatchHall$ReleaseCheck", name := "<init>", desc := "()V" } : Jvm.MethodName) "BatchHall"), (Jvm.Cond.arrayOver (Jvm.ClassFile.FieldType.object "BatchHall$Unit")), (Jvm.Cond.methodLinkNest "BatchHall$Floor" (19 : Nat) ({ cls := "BatchHall$LotBook", name := "<init>", desc := "()V" } : Jvm.MethodName) "BatchHall"), (Jvm.Cond.arrayOver (Jvm.ClassFile.FieldType.object "BatchHall$Lot")), (Jvm.Cond.methodLinkNest "BatchHall$Floor" (26 : Nat) ({ cls := "BatchHall$Mover", name := "<init>", desc := "()V" } : Jvm.MethodName) "BatchHall"), (Jvm.Cond.methodLinkNest "BatchHall$Floor" (41 : Nat) ({ cls := "BatchHall$Unit", name := "<init>", desc := "()V" } : Jvm.MethodName) "BatchHall"), (Jvm.Cond.methodLinkNest "BatchHall" (45 : Nat) ({ cls := "BatchHall$Recipe", name := "<init>", desc := "()V" } : Jvm.MethodName) "BatchHall"), (Jvm.Cond.arrayOver (Jvm.ClassFile.FieldType.object "BatchHall$Step")), (Jvm.Cond.fieldLinkNest "BatchHall$Lot" (7 : Nat) "BatchHall" "NO_PARTS" "[I" "BatchHall"), (Jvm.Cond.methodLinkNest "BatchHall$Recipe" (25 : Nat) ({ cls := "BatchHall", name := "isBelow", desc := "(II)Z" } : Jvm.MethodName) "BatchHall"), (Jvm.Cond.castable "java/lang/IllegalArgumentException" "java/lang/IllegalArgumentException"), (Jvm.Cond.declares ({ cls := "java/lang/RuntimeException", name := "<init>", desc := "()V" } : Jvm.MethodName)), (Jvm.Cond.declares ({ cls := "java/lang/RuntimeException", name := "<init>", desc := "(Ljava/lang/String;)V" } : Jvm.MethodName)), (Jvm.Cond.declares ({ cls := "java/lang/Exception", name := "<init>", desc := "()V" } : Jvm.MethodName)), (Jvm.Cond.declares ({ cls := "java/lang/Exception", name := "<init>", desc := "(Ljava/lang/String;)V" } : Jvm.MethodName)), (Jvm.Cond.declares ({ cls := "java/lang/Throwable", name := "<init>", desc := "()V" } : Jvm.MethodName)), (Jvm.Cond.declares ({ cls := "java/lang/Throwable", name := "<init>", desc := "(Ljava/lang/String;)V" } : Jvm.MethodName)), (Jvm.Cond.castable "java/lang/IllegalStateException" "java/lang/IllegalStateException"), (Jvm.Cond.methodLinkNest "BatchHall$ReleaseCheck" (80 : Nat) ({ cls := "BatchHall", name := "isBelow", desc := "(II)Z" } : Jvm.MethodName) "BatchHall"), (Jvm.Cond.arrayOver (Jvm.ClassFile.FieldType.object "BatchHall$Token")), (Jvm.Cond.methodLinkNest "BatchHall$Batch" (44 : Nat) ({ cls := "BatchHall$Token", name := "<init>", desc := "()V" } : Jvm.MethodName) "BatchHall")]
theorem bm_Nx_in : ∀ w ∈ bm_Nx, w ∈ lw_tbl := by
  have h : bm_Nx = ([105, 107, 110, 141, 144, 149, 164, 177, 233, 238, 431, 554, 653, 654, 655, 656, 657, 658, 659, 720, 747, 813, 815] : List Nat).filterMap (fun i => lw_tbl[i]?) := by decide +kernel
  intro w hw
  rw [h] at hw
  obtain ⟨i, -, hi⟩ := List.mem_filterMap.mp hw
  exact List.mem_of_getElem? hi
theorem bm_Nx_warm {s U : State} (hW : s.WarmedH U.vm) (h : ∀ w ∈ bm_Nx, va_Nw w s) : ∀ w ∈ bm_Nx, va_Nw w U := by
  intro w hw
  have h1 := h w hw
  simp only [bm_Nx, List.mem_cons, List.not_mem_nil, or_false] at hw
  rcases hw with rfl | rfl | rfl | rfl | rfl | rfl | rfl | rfl | rfl | rfl | rfl | rfl | rfl | rfl | rfl | rfl | rfl | rfl | rfl | rfl | rfl | rfl | rfl <;> first | exact va_Nw.warmM hW h1 | exact va_Nw.warmF hW h1 | exact va_AO.moved hW.alike h1 | exact va_Nw.warmC hW h1 | exact va_Nw.warmD hW h1
