/-! ===== BEGIN words of one list among another's, by their places ===== -/
theorem goodIn_r {big : List Cond} (ws : List Cond) (ps : List Nat) (hp : ws = ps.filterMap (fun i => big[i]?)) (h : ws.all goodWord = true) : GoodIn big ws := by
  intro w hw
  have h1 := List.all_eq_true.mp h w hw
  rw [hp] at hw
  obtain ⟨i, -, hi⟩ := List.mem_filterMap.mp hw
  have hm : w ∈ big := by first | exact List.mem_of_getElem? hi | exact List.getElem?_mem hi
  exact ⟨hm, good_of_word h1⟩
theorem goodIn_app {big a b : List Cond} (ha : GoodIn big a) (hb : GoodIn big b) : GoodIn big (a ++ b) := fun w h => (List.mem_append.mp h).elim (ha w) (hb w)
theorem goodIn_ca {big a b : List Cond} {c : Cond} (ha : GoodIn big (c :: a)) (hb : GoodIn big b) : GoodIn big (c :: (a ++ b)) := fun w h => (List.mem_cons.mp h).elim (fun e => ha w (List.mem_cons.mpr (Or.inl e))) (fun h => (List.mem_append.mp h).elim (fun h => ha w (List.mem_cons.mpr (Or.inr h))) (hb w))
theorem goodIn_sub {big ws : List Cond} (hm : ∀ w ∈ ws, w ∈ big) (h : ws.all goodWord = true) : GoodIn big ws := fun w hw => ⟨hm w hw, good_of_word (List.all_eq_true.mp h w hw)⟩
/-! ===== END ===== -/

/-! ===== BEGIN printed: names, fields, word lists, decode rows ===== -/
def RX0 : String := "RevisionTree$Table"
def TX0 : u_T := fun k => match k with
  | 0 => ("RevisionTree$Table", "keys", "[I", true)
  | 1 => ("RevisionTree$Table", "values", "[I", true)
  | 2 => ("RevisionTree$Table", "sizes", "[I", true)
  | _ => ("RevisionTree$Table", "held", "I", false)
def tyX0 : Nat → FieldType := fun k => match k with
  | 0 => .array .int
  | 1 => .array .int
  | 2 => .array .int
  | _ => .int
abbrev wsX00 : List Cond := u_ws RX0 TX0 4
theorem nmX0 : ∀ a, a < 4 → ∀ b, b < 4 → a ≠ b → (TX0 a).2.1 ≠ (TX0 b).2.1 := by decide +kernel
theorem tyX0_ok : ∀ k, k < 4 → parseFieldDescriptor (TX0 k).2.2.1 = some (tyX0 k) := by decide +kernel
abbrev cX0_init : ByteArray := prog_2_method_1_code
def yX0_init : MethodName := ⟨RX0, "<init>", "()V"⟩
abbrev cX0_placeOf : ByteArray := prog_2_method_2_code
def yX0_placeOf : MethodName := ⟨RX0, "placeOf", "(I)I"⟩
abbrev cX0_placeAbove : ByteArray := prog_2_method_3_code
def yX0_placeAbove : MethodName := ⟨RX0, "placeAbove", "(I)I"⟩
abbrev cX0_hasAt : ByteArray := prog_2_method_4_code
def yX0_hasAt : MethodName := ⟨RX0, "hasAt", "(II)Z"⟩
abbrev cX0_enter : ByteArray := prog_2_method_5_code
def yX0_enter : MethodName := ⟨RX0, "enter", "(III)I"⟩
abbrev cX0_drop : ByteArray := prog_2_method_6_code
def yX0_drop : MethodName := ⟨RX0, "drop", "(I)Z"⟩
abbrev cX0_shift : ByteArray := prog_2_method_7_code
def yX0_shift : MethodName := ⟨RX0, "shift", "(II)V"⟩
abbrev cX0_copyFrom : ByteArray := prog_2_method_8_code
def yX0_copyFrom : MethodName := ⟨RX0, "copyFrom", "(LRevisionTree$Table;)V"⟩
abbrev cX0_fold : ByteArray := prog_2_method_9_code
def yX0_fold : MethodName := ⟨RX0, "fold", "()I"⟩
def RX1 : String := "RevisionTree"
def TX1 : u_T := fun k => match k with
  | 0 => ("RevisionTree", "worked", "LRevisionTree$Table;", true)
  | 1 => ("RevisionTree", "kept", "[LRevisionTree$Table;", true)
  | 2 => ("RevisionTree", "revisionOfReader", "[I", true)
  | _ => ("RevisionTree", "latest", "I", false)
def tyX1 : Nat → FieldType := fun k => match k with
  | 0 => .object "RevisionTree$Table"
  | 1 => .array (.object "RevisionTree$Table")
  | 2 => .array .int
  | _ => .int
abbrev wsX10 : List Cond := u_ws RX1 TX1 4
theorem nmX1 : ∀ a, a < 4 → ∀ b, b < 4 → a ≠ b → (TX1 a).2.1 ≠ (TX1 b).2.1 := by decide +kernel
theorem tyX1_ok : ∀ k, k < 4 → parseFieldDescriptor (TX1 k).2.2.1 = some (tyX1 k) := by decide +kernel
abbrev cX1_init : ByteArray := prog_1_method_1_code
def yX1_init : MethodName := ⟨RX1, "<init>", "()V"⟩
abbrev cX1_put : ByteArray := prog_1_method_2_code
def yX1_put : MethodName := ⟨RX1, "put", "(III)I"⟩
abbrev cX1_some : ByteArray := prog_1_method_3_code
def yX1_some : MethodName := ⟨RX1, "some", "(IIII)I"⟩
abbrev cX1_remove : ByteArray := prog_1_method_4_code
def yX1_remove : MethodName := ⟨RX1, "remove", "(I)I"⟩
abbrev cX1_commit : ByteArray := prog_1_method_5_code
def yX1_commit : MethodName := ⟨RX1, "commit", "(I)I"⟩
abbrev cX1_forget : ByteArray := prog_1_method_6_code
def yX1_forget : MethodName := ⟨RX1, "forget", "()I"⟩
abbrev cX1_open : ByteArray := prog_1_method_7_code
def yX1_open : MethodName := ⟨RX1, "open", "(I)I"⟩
abbrev cX1_get : ByteArray := prog_1_method_8_code
def yX1_get : MethodName := ⟨RX1, "get", "(II)J"⟩
abbrev cX1_next : ByteArray := prog_1_method_9_code
def yX1_next : MethodName := ⟨RX1, "next", "(II)J"⟩
abbrev cX1_size : ByteArray := prog_1_method_10_code
def yX1_size : MethodName := ⟨RX1, "size", "(II)I"⟩
abbrev cX1_count : ByteArray := prog_1_method_11_code
def yX1_count : MethodName := ⟨RX1, "count", "(I)I"⟩
abbrev cX1_digest : ByteArray := prog_1_method_12_code
def yX1_digest : MethodName := ⟨RX1, "digest", "(I)I"⟩
abbrev cX1_sizeInRow : ByteArray := prog_1_method_13_code
def yX1_sizeInRow : MethodName := ⟨RX1, "sizeInRow", "(II)I"⟩
abbrev cX1_stateOfReader : ByteArray := prog_1_method_14_code
def yX1_stateOfReader : MethodName := ⟨RX1, "stateOfReader", "(I)I"⟩
abbrev cX1_tableOfReader : ByteArray := prog_1_method_15_code
def yX1_tableOfReader : MethodName := ⟨RX1, "tableOfReader", "(I)LRevisionTree$Table;"⟩
abbrev cX1_tableOfRevision : ByteArray := prog_1_method_16_code
def yX1_tableOfRevision : MethodName := ⟨RX1, "tableOfRevision", "(I)LRevisionTree$Table;"⟩
def RX2 : String := "RevisionTreeModel"
def TX2 : u_T := fun k => match k with
  | 0 => ("RevisionTreeModel", "key", "[I", true)
  | 1 => ("RevisionTreeModel", "value", "[I", true)
  | 2 => ("RevisionTreeModel", "size", "[I", true)
  | 3 => ("RevisionTreeModel", "count", "[I", true)
  | 4 => ("RevisionTreeModel", "reader", "[I", true)
  | _ => ("RevisionTreeModel", "latest", "I", false)
def tyX2 : Nat → FieldType := fun k => match k with
  | 0 => .array .int
  | 1 => .array .int
  | 2 => .array .int
  | 3 => .array .int
  | 4 => .array .int
  | _ => .int
abbrev wsX20 : List Cond := u_ws RX2 TX2 6
theorem nmX2 : ∀ a, a < 6 → ∀ b, b < 6 → a ≠ b → (TX2 a).2.1 ≠ (TX2 b).2.1 := by decide +kernel
theorem tyX2_ok : ∀ k, k < 6 → parseFieldDescriptor (TX2 k).2.2.1 = some (tyX2 k) := by decide +kernel
abbrev cX2_init : ByteArray := prog_4_method_1_code
def yX2_init : MethodName := ⟨RX2, "<init>", "()V"⟩
abbrev cX2_copy : ByteArray := prog_4_method_2_code
def yX2_copy : MethodName := ⟨RX2, "copy", "(II)V"⟩
abbrev cX2_place : ByteArray := prog_4_method_3_code
def yX2_place : MethodName := ⟨RX2, "place", "(II)I"⟩
abbrev cX2_is : ByteArray := prog_4_method_4_code
def yX2_is : MethodName := ⟨RX2, "is", "(III)Z"⟩
abbrev cX2_put : ByteArray := prog_4_method_5_code
def yX2_put : MethodName := ⟨RX2, "put", "(III)I"⟩
abbrev cX2_some : ByteArray := prog_4_method_6_code
def yX2_some : MethodName := ⟨RX2, "some", "(IIII)I"⟩
abbrev cX2_remove : ByteArray := prog_4_method_7_code
def yX2_remove : MethodName := ⟨RX2, "remove", "(I)I"⟩
abbrev cX2_commit : ByteArray := prog_4_method_8_code
def yX2_commit : MethodName := ⟨RX2, "commit", "(I)I"⟩
abbrev cX2_forget : ByteArray := prog_4_method_9_code
def yX2_forget : MethodName := ⟨RX2, "forget", "()I"⟩
abbrev cX2_open : ByteArray := prog_4_method_10_code
def yX2_open : MethodName := ⟨RX2, "open", "(I)I"⟩
abbrev cX2_table : ByteArray := prog_4_method_11_code
def yX2_table : MethodName := ⟨RX2, "table", "(I)I"⟩
abbrev cX2_get : ByteArray := prog_4_method_12_code
def yX2_get : MethodName := ⟨RX2, "get", "(II)J"⟩
abbrev cX2_next : ByteArray := prog_4_method_13_code
def yX2_next : MethodName := ⟨RX2, "next", "(II)J"⟩
abbrev cX2_size : ByteArray := prog_4_method_14_code
def yX2_size : MethodName := ⟨RX2, "size", "(II)I"⟩
abbrev cX2_count : ByteArray := prog_4_method_15_code
def yX2_count : MethodName := ⟨RX2, "count", "(I)I"⟩
def RJ9 : String := "java/lang/Math"
def TJ9 : u_T := fun k => match k with
  | _ => ("", "", "", false)
def tyJ9 : Nat → FieldType := fun k => match k with
  | _ => .int
abbrev wsJ90 : List Cond := u_ws RJ9 TJ9 0
theorem nmJ9 : ∀ a, a < 0 → ∀ b, b < 0 → a ≠ b → (TJ9 a).2.1 ≠ (TJ9 b).2.1 := by decide +kernel
theorem tyJ9_ok : ∀ k, k < 0 → parseFieldDescriptor (TJ9 k).2.2.1 = some (tyJ9 k) := by decide +kernel
abbrev cJ9_floorMod_7cf53 : ByteArray := prog_5_method_50_code
def yJ9_floorMod_7cf53 : MethodName := ⟨RJ9, "floorMod", "(II)I"⟩
def RJ10 : String := "java/lang/System"
def TJ10 : u_T := fun k => match k with
  | _ => ("", "", "", false)
def tyJ10 : Nat → FieldType := fun k => match k with
  | _ => .int
abbrev wsJ100 : List Cond := u_ws RJ10 TJ10 0
theorem nmJ10 : ∀ a, a < 0 → ∀ b, b < 0 → a ≠ b → (TJ10 a).2.1 ≠ (TJ10 b).2.1 := by decide +kernel
theorem tyJ10_ok : ∀ k, k < 0 → parseFieldDescriptor (TJ10 k).2.2.1 = some (tyJ10 k) := by decide +kernel
def RL : String := "RevisionTreeLaw"
abbrev cL_law : ByteArray := code
def yL_law : MethodName := ⟨RL, "law", "([I)Z"⟩
def wsX0_init : List Cond := .code yX0_init cX0_init 1 none :: ([.methodLink RX0 3 objectInit, .instanceMethod objectInit, .code objectInit ⟨#[0xb1]⟩ 1 none, .arrayClass .int, .fieldLink RX0 9 "RevisionTree$Table" "keys" "[I", .fieldLink RX0 15 "RevisionTree$Table" "values" "[I", .fieldLink RX0 18 "RevisionTree$Table" "sizes" "[I", .fieldLink RX0 21 "RevisionTree$Table" "held" "I"] ++ wsX00)
def wsX0_placeOf : List Cond := .code yX0_placeOf cX0_placeOf 5 (some .int) :: ([.fieldLink RX0 21 "RevisionTree$Table" "held" "I", .fieldLink RX0 9 "RevisionTree$Table" "keys" "[I"] ++ wsX00)
def wsX0_hasAt : List Cond := .code yX0_hasAt cX0_hasAt 3 (some .boolean) :: ([.fieldLink RX0 21 "RevisionTree$Table" "held" "I", .fieldLink RX0 9 "RevisionTree$Table" "keys" "[I"] ++ wsX00)
def wsX0_placeAbove : List Cond := .code yX0_placeAbove cX0_placeAbove 3 (some .int) :: ([.methodLink RX0 25 yX0_placeOf, .instanceMethod yX0_placeOf, .selects RX0 yX0_placeOf yX0_placeOf, .initialized RX0, .code yX0_placeOf cX0_placeOf 5 (some .int), .fieldLink RX0 21 "RevisionTree$Table" "held" "I", .fieldLink RX0 9 "RevisionTree$Table" "keys" "[I", .methodLink RX0 29 yX0_hasAt, .instanceMethod yX0_hasAt, .selects RX0 yX0_hasAt yX0_hasAt, .code yX0_hasAt cX0_hasAt 3 (some .boolean)] ++ wsX00)
def wsX0_shift : List Cond := .code yX0_shift cX0_shift 4 none :: ([.fieldLink RX0 21 "RevisionTree$Table" "held" "I", .fieldLink RX0 9 "RevisionTree$Table" "keys" "[I", .methodLink RX0 37 arraycopyName, .native arraycopyName, .static arraycopyName, .initialized "java/lang/System", .fieldLink RX0 15 "RevisionTree$Table" "values" "[I", .fieldLink RX0 18 "RevisionTree$Table" "sizes" "[I"] ++ wsX00)
def wsX0_enter : List Cond := .code yX0_enter cX0_enter 6 (some .int) :: ([.fieldLink RX0 21 "RevisionTree$Table" "held" "I", .fieldLink RX0 9 "RevisionTree$Table" "keys" "[I", .fieldLink RX0 15 "RevisionTree$Table" "values" "[I", .fieldLink RX0 18 "RevisionTree$Table" "sizes" "[I", .methodLink RX0 25 yX0_placeOf, .instanceMethod yX0_placeOf, .selects RX0 yX0_placeOf yX0_placeOf, .initialized RX0, .code yX0_placeOf cX0_placeOf 5 (some .int), .methodLink RX0 29 yX0_hasAt, .instanceMethod yX0_hasAt, .selects RX0 yX0_hasAt yX0_hasAt, .code yX0_hasAt cX0_hasAt 3 (some .boolean), .methodLink RX0 33 yX0_shift, .instanceMethod yX0_shift, .selects RX0 yX0_shift yX0_shift, .code yX0_shift cX0_shift 4 none, .methodLink RX0 37 arraycopyName, .native arraycopyName, .static arraycopyName, .initialized "java/lang/System"] ++ wsX00)
def wsX0_drop : List Cond := .code yX0_drop cX0_drop 3 (some .boolean) :: ([.fieldLink RX0 21 "RevisionTree$Table" "held" "I", .methodLink RX0 25 yX0_placeOf, .instanceMethod yX0_placeOf, .selects RX0 yX0_placeOf yX0_placeOf, .initialized RX0, .code yX0_placeOf cX0_placeOf 5 (some .int), .fieldLink RX0 9 "RevisionTree$Table" "keys" "[I", .methodLink RX0 29 yX0_hasAt, .instanceMethod yX0_hasAt, .selects RX0 yX0_hasAt yX0_hasAt, .code yX0_hasAt cX0_hasAt 3 (some .boolean), .methodLink RX0 33 yX0_shift, .instanceMethod yX0_shift, .selects RX0 yX0_shift yX0_shift, .code yX0_shift cX0_shift 4 none, .methodLink RX0 37 arraycopyName, .native arraycopyName, .static arraycopyName, .initialized "java/lang/System", .fieldLink RX0 15 "RevisionTree$Table" "values" "[I", .fieldLink RX0 18 "RevisionTree$Table" "sizes" "[I"] ++ wsX00)
def wsX0_copyFrom : List Cond := .code yX0_copyFrom cX0_copyFrom 2 none :: ([.fieldLink RX0 9 "RevisionTree$Table" "keys" "[I", .fieldLink RX0 21 "RevisionTree$Table" "held" "I", .methodLink RX0 37 arraycopyName, .native arraycopyName, .static arraycopyName, .initialized "java/lang/System", .fieldLink RX0 15 "RevisionTree$Table" "values" "[I", .fieldLink RX0 18 "RevisionTree$Table" "sizes" "[I"] ++ wsX00)
def wsX0_fold : List Cond := .code yX0_fold cX0_fold 3 (some .int) :: ([.fieldLink RX0 21 "RevisionTree$Table" "held" "I", .fieldLink RX0 9 "RevisionTree$Table" "keys" "[I", .fieldLink RX0 15 "RevisionTree$Table" "values" "[I", .fieldLink RX0 18 "RevisionTree$Table" "sizes" "[I"] ++ wsX00)
def wsX1_init : List Cond := .code yX1_init cX1_init 2 none :: ([.methodLink RX1 1 objectInit, .instanceMethod objectInit, .code objectInit ⟨#[0xb1]⟩ 1 none, .classLink RX1 7 RX0, .instantiable RX0 4, .initialized RX0, .fieldLink RX1 10 "RevisionTree" "worked" "LRevisionTree$Table;", .fieldLink RX1 16 "RevisionTree" "kept" "[LRevisionTree$Table;", .arrayClass .int, .fieldLink RX1 20 "RevisionTree" "revisionOfReader" "[I", .fieldLink RX1 24 "RevisionTree" "latest" "I", .instanceMethod yX0_init, .code yX0_init cX0_init 1 none, .methodLink RX0 3 objectInit, .fieldLink RX0 9 "RevisionTree$Table" "keys" "[I", .fieldLink RX0 15 "RevisionTree$Table" "values" "[I", .fieldLink RX0 18 "RevisionTree$Table" "sizes" "[I", .fieldLink RX0 21 "RevisionTree$Table" "held" "I"] ++ wsX00 ++ wsX10)
def wsX1_put_r1 : List Cond := [Cond.fieldLink RX1 10 "RevisionTree" "worked" "LRevisionTree$Table;", Cond.methodLink RX1 28 yX0_enter, Cond.instanceMethod yX0_enter, Cond.selects RX0 yX0_enter yX0_enter, Cond.initialized RX0, Cond.code yX0_enter cX0_enter 6 (some .int), Cond.fieldLink RX0 21 "RevisionTree$Table" "held" "I", Cond.fieldLink RX0 9 "RevisionTree$Table" "keys" "[I", Cond.fieldLink RX0 15 "RevisionTree$Table" "values" "[I", Cond.fieldLink RX0 18 "RevisionTree$Table" "sizes" "[I", Cond.methodLink RX0 25 yX0_placeOf, Cond.instanceMethod yX0_placeOf, Cond.selects RX0 yX0_placeOf yX0_placeOf, Cond.code yX0_placeOf cX0_placeOf 5 (some .int), Cond.methodLink RX0 29 yX0_hasAt, Cond.instanceMethod yX0_hasAt, Cond.selects RX0 yX0_hasAt yX0_hasAt, Cond.code yX0_hasAt cX0_hasAt 3 (some .boolean), Cond.methodLink RX0 33 yX0_shift, Cond.instanceMethod yX0_shift, Cond.selects RX0 yX0_shift yX0_shift, Cond.code yX0_shift cX0_shift 4 none, Cond.methodLink RX0 37 arraycopyName, Cond.native arraycopyName]
def wsX1_put_r2 : List Cond := [Cond.static arraycopyName, Cond.initialized "java/lang/System"]
def wsX1_put : List Cond := .code yX1_put cX1_put 4 (some .int) :: ((wsX1_put_r1 ++ wsX1_put_r2) ++ wsX10 ++ wsX00)
def wsX1_sizeInRow : List Cond := .code yX1_sizeInRow cX1_sizeInRow 2 (some .int) :: ([])
def wsX1_some_r1 : List Cond := [Cond.fieldLink RX1 10 "RevisionTree" "worked" "LRevisionTree$Table;", Cond.methodLink RX1 32 yX1_sizeInRow, Cond.static yX1_sizeInRow, Cond.initialized RX1, Cond.code yX1_sizeInRow cX1_sizeInRow 2 (some .int), Cond.methodLink RX1 28 yX0_enter, Cond.instanceMethod yX0_enter, Cond.selects RX0 yX0_enter yX0_enter, Cond.initialized RX0, Cond.code yX0_enter cX0_enter 6 (some .int), Cond.fieldLink RX0 21 "RevisionTree$Table" "held" "I", Cond.fieldLink RX0 9 "RevisionTree$Table" "keys" "[I", Cond.fieldLink RX0 15 "RevisionTree$Table" "values" "[I", Cond.fieldLink RX0 18 "RevisionTree$Table" "sizes" "[I", Cond.methodLink RX0 25 yX0_placeOf, Cond.instanceMethod yX0_placeOf, Cond.selects RX0 yX0_placeOf yX0_placeOf, Cond.code yX0_placeOf cX0_placeOf 5 (some .int), Cond.methodLink RX0 29 yX0_hasAt, Cond.instanceMethod yX0_hasAt, Cond.selects RX0 yX0_hasAt yX0_hasAt, Cond.code yX0_hasAt cX0_hasAt 3 (some .boolean), Cond.methodLink RX0 33 yX0_shift, Cond.instanceMethod yX0_shift]
def wsX1_some_r2 : List Cond := [Cond.selects RX0 yX0_shift yX0_shift, Cond.code yX0_shift cX0_shift 4 none, Cond.methodLink RX0 37 arraycopyName, Cond.native arraycopyName, Cond.static arraycopyName, Cond.initialized "java/lang/System"]
def wsX1_some : List Cond := .code yX1_some cX1_some 7 (some .int) :: ((wsX1_some_r1 ++ wsX1_some_r2) ++ wsX10 ++ wsX00)
def wsX1_remove_r1 : List Cond := [Cond.fieldLink RX1 10 "RevisionTree" "worked" "LRevisionTree$Table;", Cond.fieldLink RX1 40 "RevisionTree$Table" "held" "I", Cond.methodLink RX1 36 yX0_drop, Cond.instanceMethod yX0_drop, Cond.selects RX0 yX0_drop yX0_drop, Cond.initialized RX0, Cond.code yX0_drop cX0_drop 3 (some .boolean), Cond.fieldLink RX0 21 "RevisionTree$Table" "held" "I", Cond.methodLink RX0 25 yX0_placeOf, Cond.instanceMethod yX0_placeOf, Cond.selects RX0 yX0_placeOf yX0_placeOf, Cond.code yX0_placeOf cX0_placeOf 5 (some .int), Cond.fieldLink RX0 9 "RevisionTree$Table" "keys" "[I", Cond.methodLink RX0 29 yX0_hasAt, Cond.instanceMethod yX0_hasAt, Cond.selects RX0 yX0_hasAt yX0_hasAt, Cond.code yX0_hasAt cX0_hasAt 3 (some .boolean), Cond.methodLink RX0 33 yX0_shift, Cond.instanceMethod yX0_shift, Cond.selects RX0 yX0_shift yX0_shift, Cond.code yX0_shift cX0_shift 4 none, Cond.methodLink RX0 37 arraycopyName, Cond.native arraycopyName, Cond.static arraycopyName]
def wsX1_remove_r2 : List Cond := [Cond.initialized "java/lang/System", Cond.fieldLink RX0 15 "RevisionTree$Table" "values" "[I", Cond.fieldLink RX0 18 "RevisionTree$Table" "sizes" "[I"]
def wsX1_remove : List Cond := .code yX1_remove cX1_remove 2 (some .int) :: ((wsX1_remove_r1 ++ wsX1_remove_r2) ++ wsX10 ++ wsX00)
def wsJ9_floorMod_7cf53 : List Cond := .code yJ9_floorMod_7cf53 cJ9_floorMod_7cf53 3 (some .int) :: ([])
def wsX1_tableOfRevision : List Cond := .code yX1_tableOfRevision cX1_tableOfRevision 2 (some (.object "RevisionTree$Table")) :: ([.fieldLink RX1 16 "RevisionTree" "kept" "[LRevisionTree$Table;", .methodLink RX1 85 yJ9_floorMod_7cf53, .static yJ9_floorMod_7cf53, .initialized RJ9, .code yJ9_floorMod_7cf53 cJ9_floorMod_7cf53 3 (some .int)] ++ wsX10)
def wsX1_commit_r1 : List Cond := [Cond.fieldLink RX1 10 "RevisionTree" "worked" "LRevisionTree$Table;", Cond.fieldLink RX1 24 "RevisionTree" "latest" "I", Cond.methodLink RX1 43 yX1_tableOfRevision, Cond.instanceMethod yX1_tableOfRevision, Cond.selects RX1 yX1_tableOfRevision yX1_tableOfRevision, Cond.initialized RX1, Cond.code yX1_tableOfRevision cX1_tableOfRevision 2 (some (.object "RevisionTree$Table")), Cond.fieldLink RX1 16 "RevisionTree" "kept" "[LRevisionTree$Table;", Cond.methodLink RX1 85 yJ9_floorMod_7cf53, Cond.static yJ9_floorMod_7cf53, Cond.initialized RJ9, Cond.code yJ9_floorMod_7cf53 cJ9_floorMod_7cf53 3 (some .int), Cond.methodLink RX1 47 yX0_copyFrom, Cond.instanceMethod yX0_copyFrom, Cond.selects RX0 yX0_copyFrom yX0_copyFrom, Cond.initialized RX0, Cond.code yX0_copyFrom cX0_copyFrom 2 none, Cond.fieldLink RX0 9 "RevisionTree$Table" "keys" "[I", Cond.fieldLink RX0 21 "RevisionTree$Table" "held" "I", Cond.methodLink RX0 37 arraycopyName, Cond.native arraycopyName, Cond.static arraycopyName, Cond.initialized "java/lang/System", Cond.fieldLink RX0 15 "RevisionTree$Table" "values" "[I"]
def wsX1_commit_r2 : List Cond := [Cond.fieldLink RX0 18 "RevisionTree$Table" "sizes" "[I"]
def wsX1_commit : List Cond := .code yX1_commit cX1_commit 2 (some .int) :: ((wsX1_commit_r1 ++ wsX1_commit_r2) ++ wsX10 ++ wsX00)
def wsX1_forget_r1 : List Cond := [Cond.fieldLink RX1 10 "RevisionTree" "worked" "LRevisionTree$Table;", Cond.fieldLink RX1 24 "RevisionTree" "latest" "I", Cond.fieldLink RX1 40 "RevisionTree$Table" "held" "I", Cond.methodLink RX1 43 yX1_tableOfRevision, Cond.instanceMethod yX1_tableOfRevision, Cond.selects RX1 yX1_tableOfRevision yX1_tableOfRevision, Cond.initialized RX1, Cond.code yX1_tableOfRevision cX1_tableOfRevision 2 (some (.object "RevisionTree$Table")), Cond.fieldLink RX1 16 "RevisionTree" "kept" "[LRevisionTree$Table;", Cond.methodLink RX1 85 yJ9_floorMod_7cf53, Cond.static yJ9_floorMod_7cf53, Cond.initialized RJ9, Cond.code yJ9_floorMod_7cf53 cJ9_floorMod_7cf53 3 (some .int), Cond.methodLink RX1 47 yX0_copyFrom, Cond.instanceMethod yX0_copyFrom, Cond.selects RX0 yX0_copyFrom yX0_copyFrom, Cond.initialized RX0, Cond.code yX0_copyFrom cX0_copyFrom 2 none, Cond.fieldLink RX0 9 "RevisionTree$Table" "keys" "[I", Cond.fieldLink RX0 21 "RevisionTree$Table" "held" "I", Cond.methodLink RX0 37 arraycopyName, Cond.native arraycopyName, Cond.static arraycopyName, Cond.initialized "java/lang/System"]
def wsX1_forget_r2 : List Cond := [Cond.fieldLink RX0 15 "RevisionTree$Table" "values" "[I", Cond.fieldLink RX0 18 "RevisionTree$Table" "sizes" "[I"]
def wsX1_forget : List Cond := .code yX1_forget cX1_forget 1 (some .int) :: ((wsX1_forget_r1 ++ wsX1_forget_r2) ++ wsX10 ++ wsX00)
def wsX1_open : List Cond := .code yX1_open cX1_open 2 (some .int) :: ([.fieldLink RX1 20 "RevisionTree" "revisionOfReader" "[I", .fieldLink RX1 24 "RevisionTree" "latest" "I"] ++ wsX10)
def wsX1_stateOfReader : List Cond := .code yX1_stateOfReader cX1_stateOfReader 2 (some .int) :: ([.fieldLink RX1 24 "RevisionTree" "latest" "I", .fieldLink RX1 20 "RevisionTree" "revisionOfReader" "[I"] ++ wsX10)
def wsX1_tableOfReader : List Cond := .code yX1_tableOfReader cX1_tableOfReader 2 (some (.object "RevisionTree$Table")) :: ([.fieldLink RX1 10 "RevisionTree" "worked" "LRevisionTree$Table;", .fieldLink RX1 20 "RevisionTree" "revisionOfReader" "[I", .methodLink RX1 43 yX1_tableOfRevision, .instanceMethod yX1_tableOfRevision, .selects RX1 yX1_tableOfRevision yX1_tableOfRevision, .initialized RX1, .code yX1_tableOfRevision cX1_tableOfRevision 2 (some (.object "RevisionTree$Table")), .fieldLink RX1 16 "RevisionTree" "kept" "[LRevisionTree$Table;", .methodLink RX1 85 yJ9_floorMod_7cf53, .static yJ9_floorMod_7cf53, .initialized RJ9, .code yJ9_floorMod_7cf53 cJ9_floorMod_7cf53 3 (some .int)] ++ wsX10)
def wsX1_get_r1 : List Cond := [Cond.constantLong RX1 55 (1099511627776), Cond.fieldLink RX1 67 "RevisionTree$Table" "values" "[I", Cond.constantLong RX1 70 (1099511627774), Cond.methodLink RX1 51 yX1_stateOfReader, Cond.instanceMethod yX1_stateOfReader, Cond.selects RX1 yX1_stateOfReader yX1_stateOfReader, Cond.initialized RX1, Cond.code yX1_stateOfReader cX1_stateOfReader 2 (some .int), Cond.fieldLink RX1 24 "RevisionTree" "latest" "I", Cond.fieldLink RX1 20 "RevisionTree" "revisionOfReader" "[I", Cond.methodLink RX1 57 yX1_tableOfReader, Cond.instanceMethod yX1_tableOfReader, Cond.selects RX1 yX1_tableOfReader yX1_tableOfReader, Cond.code yX1_tableOfReader cX1_tableOfReader 2 (some (.object "RevisionTree$Table")), Cond.fieldLink RX1 10 "RevisionTree" "worked" "LRevisionTree$Table;", Cond.methodLink RX1 43 yX1_tableOfRevision, Cond.instanceMethod yX1_tableOfRevision, Cond.selects RX1 yX1_tableOfRevision yX1_tableOfRevision, Cond.code yX1_tableOfRevision cX1_tableOfRevision 2 (some (.object "RevisionTree$Table")), Cond.fieldLink RX1 16 "RevisionTree" "kept" "[LRevisionTree$Table;", Cond.methodLink RX1 85 yJ9_floorMod_7cf53, Cond.static yJ9_floorMod_7cf53, Cond.initialized RJ9, Cond.code yJ9_floorMod_7cf53 cJ9_floorMod_7cf53 3 (some .int)]
def wsX1_get_r2 : List Cond := [Cond.methodLink RX1 60 yX0_placeOf, Cond.instanceMethod yX0_placeOf, Cond.selects RX0 yX0_placeOf yX0_placeOf, Cond.initialized RX0, Cond.code yX0_placeOf cX0_placeOf 5 (some .int), Cond.fieldLink RX0 21 "RevisionTree$Table" "held" "I", Cond.fieldLink RX0 9 "RevisionTree$Table" "keys" "[I", Cond.methodLink RX1 63 yX0_hasAt, Cond.instanceMethod yX0_hasAt, Cond.selects RX0 yX0_hasAt yX0_hasAt, Cond.code yX0_hasAt cX0_hasAt 3 (some .boolean)]
def wsX1_get : List Cond := .code yX1_get cX1_get 6 (some .long) :: ((wsX1_get_r1 ++ wsX1_get_r2) ++ wsX00 ++ wsX10)
def wsX1_next_r1 : List Cond := [Cond.constantLong RX1 55 (1099511627776), Cond.fieldLink RX1 40 "RevisionTree$Table" "held" "I", Cond.fieldLink RX1 75 "RevisionTree$Table" "keys" "[I", Cond.constantLong RX1 70 (1099511627774), Cond.methodLink RX1 51 yX1_stateOfReader, Cond.instanceMethod yX1_stateOfReader, Cond.selects RX1 yX1_stateOfReader yX1_stateOfReader, Cond.initialized RX1, Cond.code yX1_stateOfReader cX1_stateOfReader 2 (some .int), Cond.fieldLink RX1 24 "RevisionTree" "latest" "I", Cond.fieldLink RX1 20 "RevisionTree" "revisionOfReader" "[I", Cond.methodLink RX1 57 yX1_tableOfReader, Cond.instanceMethod yX1_tableOfReader, Cond.selects RX1 yX1_tableOfReader yX1_tableOfReader, Cond.code yX1_tableOfReader cX1_tableOfReader 2 (some (.object "RevisionTree$Table")), Cond.fieldLink RX1 10 "RevisionTree" "worked" "LRevisionTree$Table;", Cond.methodLink RX1 43 yX1_tableOfRevision, Cond.instanceMethod yX1_tableOfRevision, Cond.selects RX1 yX1_tableOfRevision yX1_tableOfRevision, Cond.code yX1_tableOfRevision cX1_tableOfRevision 2 (some (.object "RevisionTree$Table")), Cond.fieldLink RX1 16 "RevisionTree" "kept" "[LRevisionTree$Table;", Cond.methodLink RX1 85 yJ9_floorMod_7cf53, Cond.static yJ9_floorMod_7cf53, Cond.initialized RJ9]
def wsX1_next_r2 : List Cond := [Cond.code yJ9_floorMod_7cf53 cJ9_floorMod_7cf53 3 (some .int), Cond.methodLink RX1 72 yX0_placeAbove, Cond.instanceMethod yX0_placeAbove, Cond.selects RX0 yX0_placeAbove yX0_placeAbove, Cond.initialized RX0, Cond.code yX0_placeAbove cX0_placeAbove 3 (some .int), Cond.methodLink RX0 25 yX0_placeOf, Cond.instanceMethod yX0_placeOf, Cond.selects RX0 yX0_placeOf yX0_placeOf, Cond.code yX0_placeOf cX0_placeOf 5 (some .int), Cond.fieldLink RX0 21 "RevisionTree$Table" "held" "I", Cond.fieldLink RX0 9 "RevisionTree$Table" "keys" "[I", Cond.methodLink RX0 29 yX0_hasAt, Cond.instanceMethod yX0_hasAt, Cond.selects RX0 yX0_hasAt yX0_hasAt, Cond.code yX0_hasAt cX0_hasAt 3 (some .boolean)]
def wsX1_next : List Cond := .code yX1_next cX1_next 6 (some .long) :: ((wsX1_next_r1 ++ wsX1_next_r2) ++ wsX00 ++ wsX10)
def wsX1_size_r1 : List Cond := [Cond.fieldLink RX1 78 "RevisionTree$Table" "sizes" "[I", Cond.methodLink RX1 51 yX1_stateOfReader, Cond.instanceMethod yX1_stateOfReader, Cond.selects RX1 yX1_stateOfReader yX1_stateOfReader, Cond.initialized RX1, Cond.code yX1_stateOfReader cX1_stateOfReader 2 (some .int), Cond.fieldLink RX1 24 "RevisionTree" "latest" "I", Cond.fieldLink RX1 20 "RevisionTree" "revisionOfReader" "[I", Cond.methodLink RX1 57 yX1_tableOfReader, Cond.instanceMethod yX1_tableOfReader, Cond.selects RX1 yX1_tableOfReader yX1_tableOfReader, Cond.code yX1_tableOfReader cX1_tableOfReader 2 (some (.object "RevisionTree$Table")), Cond.fieldLink RX1 10 "RevisionTree" "worked" "LRevisionTree$Table;", Cond.methodLink RX1 43 yX1_tableOfRevision, Cond.instanceMethod yX1_tableOfRevision, Cond.selects RX1 yX1_tableOfRevision yX1_tableOfRevision, Cond.code yX1_tableOfRevision cX1_tableOfRevision 2 (some (.object "RevisionTree$Table")), Cond.fieldLink RX1 16 "RevisionTree" "kept" "[LRevisionTree$Table;", Cond.methodLink RX1 85 yJ9_floorMod_7cf53, Cond.static yJ9_floorMod_7cf53, Cond.initialized RJ9, Cond.code yJ9_floorMod_7cf53 cJ9_floorMod_7cf53 3 (some .int), Cond.methodLink RX1 60 yX0_placeOf, Cond.instanceMethod yX0_placeOf]
def wsX1_size_r2 : List Cond := [Cond.selects RX0 yX0_placeOf yX0_placeOf, Cond.initialized RX0, Cond.code yX0_placeOf cX0_placeOf 5 (some .int), Cond.fieldLink RX0 21 "RevisionTree$Table" "held" "I", Cond.fieldLink RX0 9 "RevisionTree$Table" "keys" "[I", Cond.methodLink RX1 63 yX0_hasAt, Cond.instanceMethod yX0_hasAt, Cond.selects RX0 yX0_hasAt yX0_hasAt, Cond.code yX0_hasAt cX0_hasAt 3 (some .boolean)]
def wsX1_size : List Cond := .code yX1_size cX1_size 6 (some .int) :: ((wsX1_size_r1 ++ wsX1_size_r2) ++ wsX00 ++ wsX10)
def wsX1_count : List Cond := .code yX1_count cX1_count 3 (some .int) :: ([.fieldLink RX1 40 "RevisionTree$Table" "held" "I", .methodLink RX1 51 yX1_stateOfReader, .instanceMethod yX1_stateOfReader, .selects RX1 yX1_stateOfReader yX1_stateOfReader, .initialized RX1, .code yX1_stateOfReader cX1_stateOfReader 2 (some .int), .fieldLink RX1 24 "RevisionTree" "latest" "I", .fieldLink RX1 20 "RevisionTree" "revisionOfReader" "[I", .methodLink RX1 57 yX1_tableOfReader, .instanceMethod yX1_tableOfReader, .selects RX1 yX1_tableOfReader yX1_tableOfReader, .code yX1_tableOfReader cX1_tableOfReader 2 (some (.object "RevisionTree$Table")), .fieldLink RX1 10 "RevisionTree" "worked" "LRevisionTree$Table;", .methodLink RX1 43 yX1_tableOfRevision, .instanceMethod yX1_tableOfRevision, .selects RX1 yX1_tableOfRevision yX1_tableOfRevision, .code yX1_tableOfRevision cX1_tableOfRevision 2 (some (.object "RevisionTree$Table")), .fieldLink RX1 16 "RevisionTree" "kept" "[LRevisionTree$Table;", .methodLink RX1 85 yJ9_floorMod_7cf53, .static yJ9_floorMod_7cf53, .initialized RJ9, .code yJ9_floorMod_7cf53 cJ9_floorMod_7cf53 3 (some .int)] ++ wsX00 ++ wsX10)
def wsX1_digest_r1 : List Cond := [Cond.methodLink RX1 51 yX1_stateOfReader, Cond.instanceMethod yX1_stateOfReader, Cond.selects RX1 yX1_stateOfReader yX1_stateOfReader, Cond.initialized RX1, Cond.code yX1_stateOfReader cX1_stateOfReader 2 (some .int), Cond.fieldLink RX1 24 "RevisionTree" "latest" "I", Cond.fieldLink RX1 20 "RevisionTree" "revisionOfReader" "[I", Cond.methodLink RX1 57 yX1_tableOfReader, Cond.instanceMethod yX1_tableOfReader, Cond.selects RX1 yX1_tableOfReader yX1_tableOfReader, Cond.code yX1_tableOfReader cX1_tableOfReader 2 (some (.object "RevisionTree$Table")), Cond.fieldLink RX1 10 "RevisionTree" "worked" "LRevisionTree$Table;", Cond.methodLink RX1 43 yX1_tableOfRevision, Cond.instanceMethod yX1_tableOfRevision, Cond.selects RX1 yX1_tableOfRevision yX1_tableOfRevision, Cond.code yX1_tableOfRevision cX1_tableOfRevision 2 (some (.object "RevisionTree$Table")), Cond.fieldLink RX1 16 "RevisionTree" "kept" "[LRevisionTree$Table;", Cond.methodLink RX1 85 yJ9_floorMod_7cf53, Cond.static yJ9_floorMod_7cf53, Cond.initialized RJ9, Cond.code yJ9_floorMod_7cf53 cJ9_floorMod_7cf53 3 (some .int), Cond.methodLink RX1 81 yX0_fold, Cond.instanceMethod yX0_fold, Cond.selects RX0 yX0_fold yX0_fold]
def wsX1_digest_r2 : List Cond := [Cond.initialized RX0, Cond.code yX0_fold cX0_fold 3 (some .int), Cond.fieldLink RX0 21 "RevisionTree$Table" "held" "I", Cond.fieldLink RX0 9 "RevisionTree$Table" "keys" "[I", Cond.fieldLink RX0 15 "RevisionTree$Table" "values" "[I", Cond.fieldLink RX0 18 "RevisionTree$Table" "sizes" "[I"]
def wsX1_digest : List Cond := .code yX1_digest cX1_digest 3 (some .int) :: ((wsX1_digest_r1 ++ wsX1_digest_r2) ++ wsX10 ++ wsX00)
def wsX2_init : List Cond := .code yX2_init cX2_init 1 none :: ([.methodLink RX2 1 objectInit, .instanceMethod objectInit, .code objectInit ⟨#[0xb1]⟩ 1 none, .arrayClass .int, .fieldLink RX2 9 "RevisionTreeModel" "key" "[I", .fieldLink RX2 13 "RevisionTreeModel" "value" "[I", .fieldLink RX2 16 "RevisionTreeModel" "size" "[I", .fieldLink RX2 19 "RevisionTreeModel" "count" "[I", .fieldLink RX2 22 "RevisionTreeModel" "reader" "[I"] ++ wsX20)
def wsX2_copy : List Cond := .code yX2_copy cX2_copy 4 none :: ([.fieldLink RX2 19 "RevisionTreeModel" "count" "[I", .fieldLink RX2 9 "RevisionTreeModel" "key" "[I", .fieldLink RX2 13 "RevisionTreeModel" "value" "[I", .fieldLink RX2 16 "RevisionTreeModel" "size" "[I"] ++ wsX20)
def wsX2_place : List Cond := .code yX2_place cX2_place 4 (some .int) :: ([.fieldLink RX2 19 "RevisionTreeModel" "count" "[I", .fieldLink RX2 9 "RevisionTreeModel" "key" "[I"] ++ wsX20)
def wsX2_is : List Cond := .code yX2_is cX2_is 4 (some .boolean) :: ([.fieldLink RX2 19 "RevisionTreeModel" "count" "[I", .fieldLink RX2 9 "RevisionTreeModel" "key" "[I"] ++ wsX20)
def wsX2_put : List Cond := .code yX2_put cX2_put 7 (some .int) :: ([.fieldLink RX2 19 "RevisionTreeModel" "count" "[I", .fieldLink RX2 9 "RevisionTreeModel" "key" "[I", .fieldLink RX2 13 "RevisionTreeModel" "value" "[I", .fieldLink RX2 16 "RevisionTreeModel" "size" "[I", .methodLink RX2 25 yX2_place, .instanceMethod yX2_place, .selects RX2 yX2_place yX2_place, .initialized RX2, .code yX2_place cX2_place 4 (some .int), .methodLink RX2 29 yX2_is, .instanceMethod yX2_is, .selects RX2 yX2_is yX2_is, .code yX2_is cX2_is 4 (some .boolean)] ++ wsX20)
def wsX2_some : List Cond := .code yX2_some cX2_some 7 (some .int) :: ([.methodLink RX2 33 yX2_put, .instanceMethod yX2_put, .selects RX2 yX2_put yX2_put, .initialized RX2, .code yX2_put cX2_put 7 (some .int), .fieldLink RX2 19 "RevisionTreeModel" "count" "[I", .fieldLink RX2 9 "RevisionTreeModel" "key" "[I", .fieldLink RX2 13 "RevisionTreeModel" "value" "[I", .fieldLink RX2 16 "RevisionTreeModel" "size" "[I", .methodLink RX2 25 yX2_place, .instanceMethod yX2_place, .selects RX2 yX2_place yX2_place, .code yX2_place cX2_place 4 (some .int), .methodLink RX2 29 yX2_is, .instanceMethod yX2_is, .selects RX2 yX2_is yX2_is, .code yX2_is cX2_is 4 (some .boolean)] ++ wsX20)
def wsX2_remove : List Cond := .code yX2_remove cX2_remove 4 (some .int) :: ([.fieldLink RX2 19 "RevisionTreeModel" "count" "[I", .fieldLink RX2 9 "RevisionTreeModel" "key" "[I", .fieldLink RX2 13 "RevisionTreeModel" "value" "[I", .fieldLink RX2 16 "RevisionTreeModel" "size" "[I", .methodLink RX2 25 yX2_place, .instanceMethod yX2_place, .selects RX2 yX2_place yX2_place, .initialized RX2, .code yX2_place cX2_place 4 (some .int), .methodLink RX2 29 yX2_is, .instanceMethod yX2_is, .selects RX2 yX2_is yX2_is, .code yX2_is cX2_is 4 (some .boolean)] ++ wsX20)
def wsX2_commit : List Cond := .code yX2_commit cX2_commit 2 (some .int) :: ([.fieldLink RX2 37 "RevisionTreeModel" "latest" "I", .methodLink RX2 41 yX2_copy, .instanceMethod yX2_copy, .selects RX2 yX2_copy yX2_copy, .initialized RX2, .code yX2_copy cX2_copy 4 none, .fieldLink RX2 19 "RevisionTreeModel" "count" "[I", .fieldLink RX2 9 "RevisionTreeModel" "key" "[I", .fieldLink RX2 13 "RevisionTreeModel" "value" "[I", .fieldLink RX2 16 "RevisionTreeModel" "size" "[I"] ++ wsX20)
def wsX2_forget : List Cond := .code yX2_forget cX2_forget 1 (some .int) :: ([.fieldLink RX2 37 "RevisionTreeModel" "latest" "I", .fieldLink RX2 19 "RevisionTreeModel" "count" "[I", .methodLink RX2 41 yX2_copy, .instanceMethod yX2_copy, .selects RX2 yX2_copy yX2_copy, .initialized RX2, .code yX2_copy cX2_copy 4 none, .fieldLink RX2 9 "RevisionTreeModel" "key" "[I", .fieldLink RX2 13 "RevisionTreeModel" "value" "[I", .fieldLink RX2 16 "RevisionTreeModel" "size" "[I"] ++ wsX20)
def wsX2_open : List Cond := .code yX2_open cX2_open 2 (some .int) :: ([.fieldLink RX2 22 "RevisionTreeModel" "reader" "[I", .fieldLink RX2 37 "RevisionTreeModel" "latest" "I"] ++ wsX20)
def wsX2_table : List Cond := .code yX2_table cX2_table 2 (some .int) :: ([.fieldLink RX2 22 "RevisionTreeModel" "reader" "[I", .fieldLink RX2 37 "RevisionTreeModel" "latest" "I"] ++ wsX20)
def wsX2_get : List Cond := .code yX2_get cX2_get 5 (some .long) :: ([.constantLong RX2 49 (1099511627776), .fieldLink RX2 13 "RevisionTreeModel" "value" "[I", .constantLong RX2 51 (1099511627774), .methodLink RX2 45 yX2_table, .instanceMethod yX2_table, .selects RX2 yX2_table yX2_table, .initialized RX2, .code yX2_table cX2_table 2 (some .int), .fieldLink RX2 22 "RevisionTreeModel" "reader" "[I", .fieldLink RX2 37 "RevisionTreeModel" "latest" "I", .methodLink RX2 25 yX2_place, .instanceMethod yX2_place, .selects RX2 yX2_place yX2_place, .code yX2_place cX2_place 4 (some .int), .fieldLink RX2 19 "RevisionTreeModel" "count" "[I", .fieldLink RX2 9 "RevisionTreeModel" "key" "[I", .methodLink RX2 29 yX2_is, .instanceMethod yX2_is, .selects RX2 yX2_is yX2_is, .code yX2_is cX2_is 4 (some .boolean)] ++ wsX20)
def wsX2_next : List Cond := .code yX2_next cX2_next 5 (some .long) :: ([.constantLong RX2 49 (1099511627776), .fieldLink RX2 19 "RevisionTreeModel" "count" "[I", .fieldLink RX2 9 "RevisionTreeModel" "key" "[I", .constantLong RX2 51 (1099511627774), .methodLink RX2 45 yX2_table, .instanceMethod yX2_table, .selects RX2 yX2_table yX2_table, .initialized RX2, .code yX2_table cX2_table 2 (some .int), .fieldLink RX2 22 "RevisionTreeModel" "reader" "[I", .fieldLink RX2 37 "RevisionTreeModel" "latest" "I", .methodLink RX2 25 yX2_place, .instanceMethod yX2_place, .selects RX2 yX2_place yX2_place, .code yX2_place cX2_place 4 (some .int), .methodLink RX2 29 yX2_is, .instanceMethod yX2_is, .selects RX2 yX2_is yX2_is, .code yX2_is cX2_is 4 (some .boolean)] ++ wsX20)
def wsX2_size : List Cond := .code yX2_size cX2_size 5 (some .int) :: ([.fieldLink RX2 16 "RevisionTreeModel" "size" "[I", .methodLink RX2 45 yX2_table, .instanceMethod yX2_table, .selects RX2 yX2_table yX2_table, .initialized RX2, .code yX2_table cX2_table 2 (some .int), .fieldLink RX2 22 "RevisionTreeModel" "reader" "[I", .fieldLink RX2 37 "RevisionTreeModel" "latest" "I", .methodLink RX2 25 yX2_place, .instanceMethod yX2_place, .selects RX2 yX2_place yX2_place, .code yX2_place cX2_place 4 (some .int), .fieldLink RX2 19 "RevisionTreeModel" "count" "[I", .fieldLink RX2 9 "RevisionTreeModel" "key" "[I", .methodLink RX2 29 yX2_is, .instanceMethod yX2_is, .selects RX2 yX2_is yX2_is, .code yX2_is cX2_is 4 (some .boolean)] ++ wsX20)
def wsX2_count : List Cond := .code yX2_count cX2_count 3 (some .int) :: ([.fieldLink RX2 19 "RevisionTreeModel" "count" "[I", .methodLink RX2 45 yX2_table, .instanceMethod yX2_table, .selects RX2 yX2_table yX2_table, .initialized RX2, .code yX2_table cX2_table 2 (some .int), .fieldLink RX2 22 "RevisionTreeModel" "reader" "[I", .fieldLink RX2 37 "RevisionTreeModel" "latest" "I"] ++ wsX20)
def wsL_law_r1 : List Cond := [Cond.classLink RL 7 RX1, Cond.instantiable RX1 4, Cond.initialized RX1, Cond.classLink RL 10 RX2, Cond.instantiable RX2 6, Cond.initialized RX2, Cond.methodLink RL 9 yX1_init, Cond.instanceMethod yX1_init, Cond.code yX1_init cX1_init 2 none, Cond.methodLink RX1 1 objectInit, Cond.instanceMethod objectInit, Cond.code objectInit ⟨#[0xb1]⟩ 1 none, Cond.classLink RX1 7 RX0, Cond.instantiable RX0 4, Cond.initialized RX0, Cond.fieldLink RX1 10 "RevisionTree" "worked" "LRevisionTree$Table;", Cond.fieldLink RX1 16 "RevisionTree" "kept" "[LRevisionTree$Table;", Cond.arrayClass .int, Cond.fieldLink RX1 20 "RevisionTree" "revisionOfReader" "[I", Cond.fieldLink RX1 24 "RevisionTree" "latest" "I", Cond.instanceMethod yX0_init, Cond.code yX0_init cX0_init 1 none, Cond.methodLink RX0 3 objectInit, Cond.fieldLink RX0 9 "RevisionTree$Table" "keys" "[I"]
def wsL_law_r2 : List Cond := [Cond.fieldLink RX0 15 "RevisionTree$Table" "values" "[I", Cond.fieldLink RX0 18 "RevisionTree$Table" "sizes" "[I", Cond.fieldLink RX0 21 "RevisionTree$Table" "held" "I", Cond.methodLink RL 12 yX2_init, Cond.instanceMethod yX2_init, Cond.code yX2_init cX2_init 1 none, Cond.methodLink RX2 1 objectInit, Cond.fieldLink RX2 9 "RevisionTreeModel" "key" "[I", Cond.fieldLink RX2 13 "RevisionTreeModel" "value" "[I", Cond.fieldLink RX2 16 "RevisionTreeModel" "size" "[I", Cond.fieldLink RX2 19 "RevisionTreeModel" "count" "[I", Cond.fieldLink RX2 22 "RevisionTreeModel" "reader" "[I", Cond.methodLink RL 13 yX1_put, Cond.instanceMethod yX1_put, Cond.selects RX1 yX1_put yX1_put, Cond.code yX1_put cX1_put 4 (some .int), Cond.methodLink RX1 28 yX0_enter, Cond.instanceMethod yX0_enter, Cond.selects RX0 yX0_enter yX0_enter, Cond.code yX0_enter cX0_enter 6 (some .int), Cond.methodLink RX0 25 yX0_placeOf, Cond.instanceMethod yX0_placeOf, Cond.selects RX0 yX0_placeOf yX0_placeOf, Cond.code yX0_placeOf cX0_placeOf 5 (some .int)]
def wsL_law_r3 : List Cond := [Cond.methodLink RX0 29 yX0_hasAt, Cond.instanceMethod yX0_hasAt, Cond.selects RX0 yX0_hasAt yX0_hasAt, Cond.code yX0_hasAt cX0_hasAt 3 (some .boolean), Cond.methodLink RX0 33 yX0_shift, Cond.instanceMethod yX0_shift, Cond.selects RX0 yX0_shift yX0_shift, Cond.code yX0_shift cX0_shift 4 none, Cond.methodLink RX0 37 arraycopyName, Cond.native arraycopyName, Cond.static arraycopyName, Cond.initialized "java/lang/System", Cond.methodLink RL 17 yX2_put, Cond.instanceMethod yX2_put, Cond.selects RX2 yX2_put yX2_put, Cond.code yX2_put cX2_put 7 (some .int), Cond.methodLink RX2 25 yX2_place, Cond.instanceMethod yX2_place, Cond.selects RX2 yX2_place yX2_place, Cond.code yX2_place cX2_place 4 (some .int), Cond.methodLink RX2 29 yX2_is, Cond.instanceMethod yX2_is, Cond.selects RX2 yX2_is yX2_is, Cond.code yX2_is cX2_is 4 (some .boolean)]
def wsL_law_r4 : List Cond := [Cond.methodLink RL 18 yX1_some, Cond.instanceMethod yX1_some, Cond.selects RX1 yX1_some yX1_some, Cond.code yX1_some cX1_some 7 (some .int), Cond.methodLink RX1 32 yX1_sizeInRow, Cond.static yX1_sizeInRow, Cond.code yX1_sizeInRow cX1_sizeInRow 2 (some .int), Cond.methodLink RL 22 yX2_some, Cond.instanceMethod yX2_some, Cond.selects RX2 yX2_some yX2_some, Cond.code yX2_some cX2_some 7 (some .int), Cond.methodLink RX2 33 yX2_put, Cond.methodLink RL 23 yX1_remove, Cond.instanceMethod yX1_remove, Cond.selects RX1 yX1_remove yX1_remove, Cond.code yX1_remove cX1_remove 2 (some .int), Cond.fieldLink RX1 40 "RevisionTree$Table" "held" "I", Cond.methodLink RX1 36 yX0_drop, Cond.instanceMethod yX0_drop, Cond.selects RX0 yX0_drop yX0_drop, Cond.code yX0_drop cX0_drop 3 (some .boolean), Cond.methodLink RL 27 yX2_remove, Cond.instanceMethod yX2_remove, Cond.selects RX2 yX2_remove yX2_remove]
def wsL_law_r5 : List Cond := [Cond.code yX2_remove cX2_remove 4 (some .int), Cond.methodLink RL 28 yX1_commit, Cond.instanceMethod yX1_commit, Cond.selects RX1 yX1_commit yX1_commit, Cond.code yX1_commit cX1_commit 2 (some .int), Cond.methodLink RX1 43 yX1_tableOfRevision, Cond.instanceMethod yX1_tableOfRevision, Cond.selects RX1 yX1_tableOfRevision yX1_tableOfRevision, Cond.code yX1_tableOfRevision cX1_tableOfRevision 2 (some (.object "RevisionTree$Table")), Cond.methodLink RX1 85 yJ9_floorMod_7cf53, Cond.static yJ9_floorMod_7cf53, Cond.initialized RJ9, Cond.code yJ9_floorMod_7cf53 cJ9_floorMod_7cf53 3 (some .int), Cond.methodLink RX1 47 yX0_copyFrom, Cond.instanceMethod yX0_copyFrom, Cond.selects RX0 yX0_copyFrom yX0_copyFrom, Cond.code yX0_copyFrom cX0_copyFrom 2 none, Cond.methodLink RL 31 yX2_commit, Cond.instanceMethod yX2_commit, Cond.selects RX2 yX2_commit yX2_commit, Cond.code yX2_commit cX2_commit 2 (some .int), Cond.fieldLink RX2 37 "RevisionTreeModel" "latest" "I", Cond.methodLink RX2 41 yX2_copy, Cond.instanceMethod yX2_copy]
def wsL_law_r6 : List Cond := [Cond.selects RX2 yX2_copy yX2_copy, Cond.code yX2_copy cX2_copy 4 none, Cond.methodLink RL 32 yX1_forget, Cond.instanceMethod yX1_forget, Cond.selects RX1 yX1_forget yX1_forget, Cond.code yX1_forget cX1_forget 1 (some .int), Cond.methodLink RL 36 yX2_forget, Cond.instanceMethod yX2_forget, Cond.selects RX2 yX2_forget yX2_forget, Cond.code yX2_forget cX2_forget 1 (some .int), Cond.methodLink RL 37 yX1_open, Cond.instanceMethod yX1_open, Cond.selects RX1 yX1_open yX1_open, Cond.code yX1_open cX1_open 2 (some .int), Cond.methodLink RL 40 yX2_open, Cond.instanceMethod yX2_open, Cond.selects RX2 yX2_open yX2_open, Cond.code yX2_open cX2_open 2 (some .int), Cond.methodLink RL 41 yX1_get, Cond.instanceMethod yX1_get, Cond.selects RX1 yX1_get yX1_get, Cond.code yX1_get cX1_get 6 (some .long), Cond.constantLong RX1 55 (1099511627776), Cond.fieldLink RX1 67 "RevisionTree$Table" "values" "[I"]
def wsL_law_r7 : List Cond := [Cond.constantLong RX1 70 (1099511627774), Cond.methodLink RX1 51 yX1_stateOfReader, Cond.instanceMethod yX1_stateOfReader, Cond.selects RX1 yX1_stateOfReader yX1_stateOfReader, Cond.code yX1_stateOfReader cX1_stateOfReader 2 (some .int), Cond.methodLink RX1 57 yX1_tableOfReader, Cond.instanceMethod yX1_tableOfReader, Cond.selects RX1 yX1_tableOfReader yX1_tableOfReader, Cond.code yX1_tableOfReader cX1_tableOfReader 2 (some (.object "RevisionTree$Table")), Cond.methodLink RX1 60 yX0_placeOf, Cond.methodLink RX1 63 yX0_hasAt, Cond.methodLink RL 45 yX2_get, Cond.instanceMethod yX2_get, Cond.selects RX2 yX2_get yX2_get, Cond.code yX2_get cX2_get 5 (some .long), Cond.constantLong RX2 49 (1099511627776), Cond.constantLong RX2 51 (1099511627774), Cond.methodLink RX2 45 yX2_table, Cond.instanceMethod yX2_table, Cond.selects RX2 yX2_table yX2_table, Cond.code yX2_table cX2_table 2 (some .int), Cond.methodLink RL 46 yX1_next, Cond.instanceMethod yX1_next, Cond.selects RX1 yX1_next yX1_next]
def wsL_law_r8 : List Cond := [Cond.code yX1_next cX1_next 6 (some .long), Cond.fieldLink RX1 75 "RevisionTree$Table" "keys" "[I", Cond.methodLink RX1 72 yX0_placeAbove, Cond.instanceMethod yX0_placeAbove, Cond.selects RX0 yX0_placeAbove yX0_placeAbove, Cond.code yX0_placeAbove cX0_placeAbove 3 (some .int), Cond.methodLink RL 49 yX2_next, Cond.instanceMethod yX2_next, Cond.selects RX2 yX2_next yX2_next, Cond.code yX2_next cX2_next 5 (some .long), Cond.methodLink RL 50 yX1_size, Cond.instanceMethod yX1_size, Cond.selects RX1 yX1_size yX1_size, Cond.code yX1_size cX1_size 6 (some .int), Cond.fieldLink RX1 78 "RevisionTree$Table" "sizes" "[I", Cond.methodLink RL 54 yX2_size, Cond.instanceMethod yX2_size, Cond.selects RX2 yX2_size yX2_size, Cond.code yX2_size cX2_size 5 (some .int), Cond.methodLink RL 55 yX1_count, Cond.instanceMethod yX1_count, Cond.selects RX1 yX1_count yX1_count, Cond.code yX1_count cX1_count 3 (some .int), Cond.methodLink RL 58 yX2_count]
def wsL_law_r9 : List Cond := [Cond.instanceMethod yX2_count, Cond.selects RX2 yX2_count yX2_count, Cond.code yX2_count cX2_count 3 (some .int), Cond.methodLink RL 59 yX1_digest, Cond.instanceMethod yX1_digest, Cond.selects RX1 yX1_digest yX1_digest, Cond.code yX1_digest cX1_digest 3 (some .int), Cond.methodLink RX1 81 yX0_fold, Cond.instanceMethod yX0_fold, Cond.selects RX0 yX0_fold yX0_fold, Cond.code yX0_fold cX0_fold 3 (some .int)]
def wsL_law : List Cond := (wsL_law_r1 ++ (wsL_law_r2 ++ (wsL_law_r3 ++ (wsL_law_r4 ++ (wsL_law_r5 ++ (wsL_law_r6 ++ (wsL_law_r7 ++ (wsL_law_r8 ++ wsL_law_r9)))))))) ++ wsX10 ++ wsX20 ++ wsX00 ++ ([] : List Cond)
set_option maxRecDepth 20000 in
theorem wsL_law_in : ∀ w ∈ wsL_law, w ∈ lw_tbl := fun w h => (goodIn_p wsL_law [18, 21, 26, 165, 63, 67, 71, 75, 79, 189, 193, 197, 86, 89, 201, 93, 97, 206, 101, 105, 108, 112, 210, 214, 116, 218, 120, 222, 124, 128, 133, 226, 230, 140, 144, 236, 148, 240, 152, 244, 156, 160] (by decide +kernel) (by decide +kernel) w h).1
theorem inlX0 : ∀ w ∈ wsX00, w ∈ wsL_law := fun _ h => List.mem_append_left _ (List.mem_append_right _ h)
theorem inX0 : ∀ w ∈ wsX00, w ∈ lw_tbl := fun w h => wsL_law_in w (inlX0 w h)
theorem inlX1 : ∀ w ∈ wsX10, w ∈ wsL_law := fun _ h => List.mem_append_left _ (List.mem_append_left _ (List.mem_append_left _ (List.mem_append_right _ h)))
theorem inX1 : ∀ w ∈ wsX10, w ∈ lw_tbl := fun w h => wsL_law_in w (inlX1 w h)
theorem inlX2 : ∀ w ∈ wsX20, w ∈ wsL_law := fun _ h => List.mem_append_left _ (List.mem_append_left _ (List.mem_append_right _ h))
theorem inX2 : ∀ w ∈ wsX20, w ∈ lw_tbl := fun w h => wsL_law_in w (inlX2 w h)
theorem inJ9 : ∀ w ∈ wsJ90, w ∈ lw_tbl := by decide +kernel
theorem inJ10 : ∀ w ∈ wsJ100, w ∈ lw_tbl := by decide +kernel
theorem dX0_init_0 : decode cX0_init 0 = .ok (.aload_n 0, 1) := by decide +kernel
theorem dX0_init_1 : decode cX0_init 1 = .ok (.invokespecial 3, 3) := by decide +kernel
theorem dX0_init_4 : decode cX0_init 4 = .ok (.aload_n 0, 1) := by decide +kernel
theorem dX0_init_5 : decode cX0_init 5 = .ok (.sipush 400, 3) := by decide +kernel
theorem dX0_init_8 : decode cX0_init 8 = .ok (.newarray .int, 2) := by decide +kernel
theorem dX0_init_10 : decode cX0_init 10 = .ok (.putfield 9, 3) := by decide +kernel
theorem dX0_init_13 : decode cX0_init 13 = .ok (.aload_n 0, 1) := by decide +kernel
theorem dX0_init_14 : decode cX0_init 14 = .ok (.sipush 400, 3) := by decide +kernel
theorem dX0_init_17 : decode cX0_init 17 = .ok (.newarray .int, 2) := by decide +kernel
theorem dX0_init_19 : decode cX0_init 19 = .ok (.putfield 15, 3) := by decide +kernel
theorem dX0_init_22 : decode cX0_init 22 = .ok (.aload_n 0, 1) := by decide +kernel
theorem dX0_init_23 : decode cX0_init 23 = .ok (.sipush 400, 3) := by decide +kernel
theorem dX0_init_26 : decode cX0_init 26 = .ok (.newarray .int, 2) := by decide +kernel
theorem dX0_init_28 : decode cX0_init 28 = .ok (.putfield 18, 3) := by decide +kernel
theorem dX0_init_31 : decode cX0_init 31 = .ok (.aload_n 0, 1) := by decide +kernel
theorem dX0_init_32 : decode cX0_init 32 = .ok (.iconst 0, 1) := by decide +kernel
theorem dX0_init_33 : decode cX0_init 33 = .ok (.putfield 21, 3) := by decide +kernel
theorem dX0_init_36 : decode cX0_init 36 = .ok (.return_, 1) := by decide +kernel
theorem dX0_placeOf_0 : decode cX0_placeOf 0 = .ok (.iconst 0, 1) := by decide +kernel
theorem dX0_placeOf_1 : decode cX0_placeOf 1 = .ok (.istore_n 2, 1) := by decide +kernel
theorem dX0_placeOf_2 : decode cX0_placeOf 2 = .ok (.aload_n 0, 1) := by decide +kernel
theorem dX0_placeOf_3 : decode cX0_placeOf 3 = .ok (.getfield 21, 3) := by decide +kernel
theorem dX0_placeOf_6 : decode cX0_placeOf 6 = .ok (.istore_n 3, 1) := by decide +kernel
theorem dX0_placeOf_7 : decode cX0_placeOf 7 = .ok (.iload_n 2, 1) := by decide +kernel
theorem dX0_placeOf_8 : decode cX0_placeOf 8 = .ok (.iload_n 3, 1) := by decide +kernel
theorem dX0_placeOf_9 : decode cX0_placeOf 9 = .ok (.if_icmp .ge 35, 3) := by decide +kernel
theorem dX0_placeOf_12 : decode cX0_placeOf 12 = .ok (.iload_n 2, 1) := by decide +kernel
theorem dX0_placeOf_13 : decode cX0_placeOf 13 = .ok (.iload_n 3, 1) := by decide +kernel
theorem dX0_placeOf_14 : decode cX0_placeOf 14 = .ok (.iadd, 1) := by decide +kernel
theorem dX0_placeOf_15 : decode cX0_placeOf 15 = .ok (.iconst 2, 1) := by decide +kernel
theorem dX0_placeOf_16 : decode cX0_placeOf 16 = .ok (.idiv, 1) := by decide +kernel
theorem dX0_placeOf_17 : decode cX0_placeOf 17 = .ok (.istore 4, 2) := by decide +kernel
theorem dX0_placeOf_19 : decode cX0_placeOf 19 = .ok (.aload_n 0, 1) := by decide +kernel
theorem dX0_placeOf_20 : decode cX0_placeOf 20 = .ok (.getfield 9, 3) := by decide +kernel
theorem dX0_placeOf_23 : decode cX0_placeOf 23 = .ok (.iload 4, 2) := by decide +kernel
theorem dX0_placeOf_25 : decode cX0_placeOf 25 = .ok (.iaload, 1) := by decide +kernel
theorem dX0_placeOf_26 : decode cX0_placeOf 26 = .ok (.iload_n 1, 1) := by decide +kernel
theorem dX0_placeOf_27 : decode cX0_placeOf 27 = .ok (.if_icmp .ge 11, 3) := by decide +kernel
theorem dX0_placeOf_30 : decode cX0_placeOf 30 = .ok (.iload 4, 2) := by decide +kernel
theorem dX0_placeOf_32 : decode cX0_placeOf 32 = .ok (.iconst 1, 1) := by decide +kernel
theorem dX0_placeOf_33 : decode cX0_placeOf 33 = .ok (.iadd, 1) := by decide +kernel
theorem dX0_placeOf_34 : decode cX0_placeOf 34 = .ok (.istore_n 2, 1) := by decide +kernel
theorem dX0_placeOf_35 : decode cX0_placeOf 35 = .ok (.goto 6, 3) := by decide +kernel
theorem dX0_placeOf_38 : decode cX0_placeOf 38 = .ok (.iload 4, 2) := by decide +kernel
theorem dX0_placeOf_40 : decode cX0_placeOf 40 = .ok (.istore_n 3, 1) := by decide +kernel
theorem dX0_placeOf_41 : decode cX0_placeOf 41 = .ok (.goto (-34), 3) := by decide +kernel
theorem dX0_placeOf_44 : decode cX0_placeOf 44 = .ok (.iload_n 2, 1) := by decide +kernel
theorem dX0_placeOf_45 : decode cX0_placeOf 45 = .ok (.ireturn, 1) := by decide +kernel
set_option maxRecDepth 20000 in
theorem ggX0_placeAbove_X0_placeOf : GoodIn wsX0_placeAbove wsX0_placeOf := goodIn_r _ [5, 6, 7, 12, 13, 14, 15] (by decide +kernel) (by decide +kernel)
set_option maxRecDepth 20000 in
theorem gX0_placeAbove_X0_placeOf : GoodIn wsX0_placeAbove (wsV RX0 25 RX0 yX0_placeOf wsX0_placeOf) := goodIn_app (goodIn_of _ (by decide +kernel)) ggX0_placeAbove_X0_placeOf
set_option maxRecDepth 20000 in
theorem ggX0_placeAbove_X0_hasAt : GoodIn wsX0_placeAbove wsX0_hasAt := goodIn_r _ [11, 6, 7, 12, 13, 14, 15] (by decide +kernel) (by decide +kernel)
set_option maxRecDepth 20000 in
theorem gX0_placeAbove_X0_hasAt : GoodIn wsX0_placeAbove (wsV RX0 29 RX0 yX0_hasAt wsX0_hasAt) := goodIn_app (goodIn_of _ (by decide +kernel)) ggX0_placeAbove_X0_hasAt
theorem dX0_placeAbove_0 : decode cX0_placeAbove 0 = .ok (.aload_n 0, 1) := by decide +kernel
theorem dX0_placeAbove_1 : decode cX0_placeAbove 1 = .ok (.iload_n 1, 1) := by decide +kernel
theorem dX0_placeAbove_2 : decode cX0_placeAbove 2 = .ok (.invokevirtual 25, 3) := by decide +kernel
theorem dX0_placeAbove_5 : decode cX0_placeAbove 5 = .ok (.istore_n 2, 1) := by decide +kernel
theorem dX0_placeAbove_6 : decode cX0_placeAbove 6 = .ok (.aload_n 0, 1) := by decide +kernel
theorem dX0_placeAbove_7 : decode cX0_placeAbove 7 = .ok (.iload_n 2, 1) := by decide +kernel
theorem dX0_placeAbove_8 : decode cX0_placeAbove 8 = .ok (.iload_n 1, 1) := by decide +kernel
theorem dX0_placeAbove_9 : decode cX0_placeAbove 9 = .ok (.invokevirtual 29, 3) := by decide +kernel
theorem dX0_placeAbove_12 : decode cX0_placeAbove 12 = .ok (.ifCond .eq 9, 3) := by decide +kernel
theorem dX0_placeAbove_15 : decode cX0_placeAbove 15 = .ok (.iload_n 2, 1) := by decide +kernel
theorem dX0_placeAbove_16 : decode cX0_placeAbove 16 = .ok (.iconst 1, 1) := by decide +kernel
theorem dX0_placeAbove_17 : decode cX0_placeAbove 17 = .ok (.iadd, 1) := by decide +kernel
theorem dX0_placeAbove_18 : decode cX0_placeAbove 18 = .ok (.goto 4, 3) := by decide +kernel
theorem dX0_placeAbove_21 : decode cX0_placeAbove 21 = .ok (.iload_n 2, 1) := by decide +kernel
theorem dX0_placeAbove_22 : decode cX0_placeAbove 22 = .ok (.ireturn, 1) := by decide +kernel
theorem dX0_hasAt_0 : decode cX0_hasAt 0 = .ok (.iload_n 1, 1) := by decide +kernel
theorem dX0_hasAt_1 : decode cX0_hasAt 1 = .ok (.aload_n 0, 1) := by decide +kernel
theorem dX0_hasAt_2 : decode cX0_hasAt 2 = .ok (.getfield 21, 3) := by decide +kernel
theorem dX0_hasAt_5 : decode cX0_hasAt 5 = .ok (.if_icmp .ge 17, 3) := by decide +kernel
theorem dX0_hasAt_8 : decode cX0_hasAt 8 = .ok (.aload_n 0, 1) := by decide +kernel
theorem dX0_hasAt_9 : decode cX0_hasAt 9 = .ok (.getfield 9, 3) := by decide +kernel
theorem dX0_hasAt_12 : decode cX0_hasAt 12 = .ok (.iload_n 1, 1) := by decide +kernel
theorem dX0_hasAt_13 : decode cX0_hasAt 13 = .ok (.iaload, 1) := by decide +kernel
theorem dX0_hasAt_14 : decode cX0_hasAt 14 = .ok (.iload_n 2, 1) := by decide +kernel
theorem dX0_hasAt_15 : decode cX0_hasAt 15 = .ok (.if_icmp .ne 7, 3) := by decide +kernel
theorem dX0_hasAt_18 : decode cX0_hasAt 18 = .ok (.iconst 1, 1) := by decide +kernel
theorem dX0_hasAt_19 : decode cX0_hasAt 19 = .ok (.goto 4, 3) := by decide +kernel
theorem dX0_hasAt_22 : decode cX0_hasAt 22 = .ok (.iconst 0, 1) := by decide +kernel
theorem dX0_hasAt_23 : decode cX0_hasAt 23 = .ok (.ireturn, 1) := by decide +kernel
set_option maxRecDepth 20000 in
theorem ggX0_enter_X0_placeOf : GoodIn wsX0_enter wsX0_placeOf := goodIn_r _ [9, 1, 2, 22, 23, 24, 25] (by decide +kernel) (by decide +kernel)
set_option maxRecDepth 20000 in
theorem gX0_enter_X0_placeOf : GoodIn wsX0_enter (wsV RX0 25 RX0 yX0_placeOf wsX0_placeOf) := goodIn_app (goodIn_of _ (by decide +kernel)) ggX0_enter_X0_placeOf
set_option maxRecDepth 20000 in
theorem ggX0_enter_X0_hasAt : GoodIn wsX0_enter wsX0_hasAt := goodIn_r _ [13, 1, 2, 22, 23, 24, 25] (by decide +kernel) (by decide +kernel)
set_option maxRecDepth 20000 in
theorem gX0_enter_X0_hasAt : GoodIn wsX0_enter (wsV RX0 29 RX0 yX0_hasAt wsX0_hasAt) := goodIn_app (goodIn_of _ (by decide +kernel)) ggX0_enter_X0_hasAt
set_option maxRecDepth 20000 in
theorem ggX0_enter_X0_shift : GoodIn wsX0_enter wsX0_shift := goodIn_r _ [17, 1, 2, 18, 19, 20, 21, 3, 4, 22, 23, 24, 25] (by decide +kernel) (by decide +kernel)
set_option maxRecDepth 20000 in
theorem gX0_enter_X0_shift : GoodIn wsX0_enter (wsV RX0 33 RX0 yX0_shift wsX0_shift) := goodIn_app (goodIn_of _ (by decide +kernel)) ggX0_enter_X0_shift
theorem dX0_enter_0 : decode cX0_enter 0 = .ok (.aload_n 0, 1) := by decide +kernel
theorem dX0_enter_1 : decode cX0_enter 1 = .ok (.iload_n 1, 1) := by decide +kernel
theorem dX0_enter_2 : decode cX0_enter 2 = .ok (.invokevirtual 25, 3) := by decide +kernel
theorem dX0_enter_5 : decode cX0_enter 5 = .ok (.istore 4, 2) := by decide +kernel
theorem dX0_enter_7 : decode cX0_enter 7 = .ok (.aload_n 0, 1) := by decide +kernel
theorem dX0_enter_8 : decode cX0_enter 8 = .ok (.iload 4, 2) := by decide +kernel
theorem dX0_enter_10 : decode cX0_enter 10 = .ok (.iload_n 1, 1) := by decide +kernel
theorem dX0_enter_11 : decode cX0_enter 11 = .ok (.invokevirtual 29, 3) := by decide +kernel
theorem dX0_enter_14 : decode cX0_enter 14 = .ok (.ifCond .ne 7, 3) := by decide +kernel
theorem dX0_enter_17 : decode cX0_enter 17 = .ok (.iconst 1, 1) := by decide +kernel
theorem dX0_enter_18 : decode cX0_enter 18 = .ok (.goto 4, 3) := by decide +kernel
theorem dX0_enter_21 : decode cX0_enter 21 = .ok (.iconst 0, 1) := by decide +kernel
theorem dX0_enter_22 : decode cX0_enter 22 = .ok (.istore 5, 2) := by decide +kernel
theorem dX0_enter_24 : decode cX0_enter 24 = .ok (.iload 5, 2) := by decide +kernel
theorem dX0_enter_26 : decode cX0_enter 26 = .ok (.ifCond .eq 44, 3) := by decide +kernel
theorem dX0_enter_29 : decode cX0_enter 29 = .ok (.aload_n 0, 1) := by decide +kernel
theorem dX0_enter_30 : decode cX0_enter 30 = .ok (.getfield 21, 3) := by decide +kernel
theorem dX0_enter_33 : decode cX0_enter 33 = .ok (.sipush 400, 3) := by decide +kernel
theorem dX0_enter_36 : decode cX0_enter 36 = .ok (.if_icmp .lt 6, 3) := by decide +kernel
theorem dX0_enter_39 : decode cX0_enter 39 = .ok (.bipush (-3), 2) := by decide +kernel
theorem dX0_enter_41 : decode cX0_enter 41 = .ok (.ireturn, 1) := by decide +kernel
theorem dX0_enter_42 : decode cX0_enter 42 = .ok (.aload_n 0, 1) := by decide +kernel
theorem dX0_enter_43 : decode cX0_enter 43 = .ok (.iload 4, 2) := by decide +kernel
theorem dX0_enter_45 : decode cX0_enter 45 = .ok (.iload 4, 2) := by decide +kernel
theorem dX0_enter_47 : decode cX0_enter 47 = .ok (.iconst 1, 1) := by decide +kernel
theorem dX0_enter_48 : decode cX0_enter 48 = .ok (.iadd, 1) := by decide +kernel
theorem dX0_enter_49 : decode cX0_enter 49 = .ok (.invokevirtual 33, 3) := by decide +kernel
theorem dX0_enter_52 : decode cX0_enter 52 = .ok (.aload_n 0, 1) := by decide +kernel
theorem dX0_enter_53 : decode cX0_enter 53 = .ok (.dup, 1) := by decide +kernel
theorem dX0_enter_54 : decode cX0_enter 54 = .ok (.getfield 21, 3) := by decide +kernel
theorem dX0_enter_57 : decode cX0_enter 57 = .ok (.iconst 1, 1) := by decide +kernel
theorem dX0_enter_58 : decode cX0_enter 58 = .ok (.iadd, 1) := by decide +kernel
theorem dX0_enter_59 : decode cX0_enter 59 = .ok (.putfield 21, 3) := by decide +kernel
theorem dX0_enter_62 : decode cX0_enter 62 = .ok (.aload_n 0, 1) := by decide +kernel
theorem dX0_enter_63 : decode cX0_enter 63 = .ok (.getfield 9, 3) := by decide +kernel
theorem dX0_enter_66 : decode cX0_enter 66 = .ok (.iload 4, 2) := by decide +kernel
theorem dX0_enter_68 : decode cX0_enter 68 = .ok (.iload_n 1, 1) := by decide +kernel
theorem dX0_enter_69 : decode cX0_enter 69 = .ok (.iastore, 1) := by decide +kernel
theorem dX0_enter_70 : decode cX0_enter 70 = .ok (.aload_n 0, 1) := by decide +kernel
theorem dX0_enter_71 : decode cX0_enter 71 = .ok (.getfield 15, 3) := by decide +kernel
theorem dX0_enter_74 : decode cX0_enter 74 = .ok (.iload 4, 2) := by decide +kernel
theorem dX0_enter_76 : decode cX0_enter 76 = .ok (.iload_n 2, 1) := by decide +kernel
theorem dX0_enter_77 : decode cX0_enter 77 = .ok (.iastore, 1) := by decide +kernel
theorem dX0_enter_78 : decode cX0_enter 78 = .ok (.aload_n 0, 1) := by decide +kernel
theorem dX0_enter_79 : decode cX0_enter 79 = .ok (.getfield 18, 3) := by decide +kernel
theorem dX0_enter_82 : decode cX0_enter 82 = .ok (.iload 4, 2) := by decide +kernel
theorem dX0_enter_84 : decode cX0_enter 84 = .ok (.iload_n 3, 1) := by decide +kernel
theorem dX0_enter_85 : decode cX0_enter 85 = .ok (.iastore, 1) := by decide +kernel
theorem dX0_enter_86 : decode cX0_enter 86 = .ok (.iload 5, 2) := by decide +kernel
theorem dX0_enter_88 : decode cX0_enter 88 = .ok (.ifCond .eq 7, 3) := by decide +kernel
theorem dX0_enter_91 : decode cX0_enter 91 = .ok (.iconst 1, 1) := by decide +kernel
theorem dX0_enter_92 : decode cX0_enter 92 = .ok (.goto 4, 3) := by decide +kernel
theorem dX0_enter_95 : decode cX0_enter 95 = .ok (.iconst 0, 1) := by decide +kernel
theorem dX0_enter_96 : decode cX0_enter 96 = .ok (.ireturn, 1) := by decide +kernel
set_option maxRecDepth 20000 in
theorem ggX0_drop_X0_placeOf : GoodIn wsX0_drop wsX0_placeOf := goodIn_r _ [6, 1, 7, 22, 23, 24, 25] (by decide +kernel) (by decide +kernel)
set_option maxRecDepth 20000 in
theorem gX0_drop_X0_placeOf : GoodIn wsX0_drop (wsV RX0 25 RX0 yX0_placeOf wsX0_placeOf) := goodIn_app (goodIn_of _ (by decide +kernel)) ggX0_drop_X0_placeOf
set_option maxRecDepth 20000 in
theorem ggX0_drop_X0_hasAt : GoodIn wsX0_drop wsX0_hasAt := goodIn_r _ [11, 1, 7, 22, 23, 24, 25] (by decide +kernel) (by decide +kernel)
set_option maxRecDepth 20000 in
theorem gX0_drop_X0_hasAt : GoodIn wsX0_drop (wsV RX0 29 RX0 yX0_hasAt wsX0_hasAt) := goodIn_app (goodIn_of _ (by decide +kernel)) ggX0_drop_X0_hasAt
set_option maxRecDepth 20000 in
theorem ggX0_drop_X0_shift : GoodIn wsX0_drop wsX0_shift := goodIn_r _ [15, 1, 7, 16, 17, 18, 19, 20, 21, 22, 23, 24, 25] (by decide +kernel) (by decide +kernel)
set_option maxRecDepth 20000 in
theorem gX0_drop_X0_shift : GoodIn wsX0_drop (wsV RX0 33 RX0 yX0_shift wsX0_shift) := goodIn_app (goodIn_of _ (by decide +kernel)) ggX0_drop_X0_shift
theorem dX0_drop_0 : decode cX0_drop 0 = .ok (.aload_n 0, 1) := by decide +kernel
theorem dX0_drop_1 : decode cX0_drop 1 = .ok (.iload_n 1, 1) := by decide +kernel
theorem dX0_drop_2 : decode cX0_drop 2 = .ok (.invokevirtual 25, 3) := by decide +kernel
theorem dX0_drop_5 : decode cX0_drop 5 = .ok (.istore_n 2, 1) := by decide +kernel
theorem dX0_drop_6 : decode cX0_drop 6 = .ok (.aload_n 0, 1) := by decide +kernel
theorem dX0_drop_7 : decode cX0_drop 7 = .ok (.iload_n 2, 1) := by decide +kernel
theorem dX0_drop_8 : decode cX0_drop 8 = .ok (.iload_n 1, 1) := by decide +kernel
theorem dX0_drop_9 : decode cX0_drop 9 = .ok (.invokevirtual 29, 3) := by decide +kernel
theorem dX0_drop_12 : decode cX0_drop 12 = .ok (.ifCond .ne 5, 3) := by decide +kernel
theorem dX0_drop_15 : decode cX0_drop 15 = .ok (.iconst 0, 1) := by decide +kernel
theorem dX0_drop_16 : decode cX0_drop 16 = .ok (.ireturn, 1) := by decide +kernel
theorem dX0_drop_17 : decode cX0_drop 17 = .ok (.aload_n 0, 1) := by decide +kernel
theorem dX0_drop_18 : decode cX0_drop 18 = .ok (.iload_n 2, 1) := by decide +kernel
theorem dX0_drop_19 : decode cX0_drop 19 = .ok (.iconst 1, 1) := by decide +kernel
theorem dX0_drop_20 : decode cX0_drop 20 = .ok (.iadd, 1) := by decide +kernel
theorem dX0_drop_21 : decode cX0_drop 21 = .ok (.iload_n 2, 1) := by decide +kernel
theorem dX0_drop_22 : decode cX0_drop 22 = .ok (.invokevirtual 33, 3) := by decide +kernel
theorem dX0_drop_25 : decode cX0_drop 25 = .ok (.aload_n 0, 1) := by decide +kernel
theorem dX0_drop_26 : decode cX0_drop 26 = .ok (.dup, 1) := by decide +kernel
theorem dX0_drop_27 : decode cX0_drop 27 = .ok (.getfield 21, 3) := by decide +kernel
theorem dX0_drop_30 : decode cX0_drop 30 = .ok (.iconst 1, 1) := by decide +kernel
theorem dX0_drop_31 : decode cX0_drop 31 = .ok (.isub, 1) := by decide +kernel
theorem dX0_drop_32 : decode cX0_drop 32 = .ok (.putfield 21, 3) := by decide +kernel
theorem dX0_drop_35 : decode cX0_drop 35 = .ok (.iconst 1, 1) := by decide +kernel
theorem dX0_drop_36 : decode cX0_drop 36 = .ok (.ireturn, 1) := by decide +kernel
theorem dX0_shift_0 : decode cX0_shift 0 = .ok (.aload_n 0, 1) := by decide +kernel
theorem dX0_shift_1 : decode cX0_shift 1 = .ok (.getfield 21, 3) := by decide +kernel
theorem dX0_shift_4 : decode cX0_shift 4 = .ok (.iload_n 1, 1) := by decide +kernel
theorem dX0_shift_5 : decode cX0_shift 5 = .ok (.isub, 1) := by decide +kernel
theorem dX0_shift_6 : decode cX0_shift 6 = .ok (.istore_n 3, 1) := by decide +kernel
theorem dX0_shift_7 : decode cX0_shift 7 = .ok (.aload_n 0, 1) := by decide +kernel
theorem dX0_shift_8 : decode cX0_shift 8 = .ok (.getfield 9, 3) := by decide +kernel
theorem dX0_shift_11 : decode cX0_shift 11 = .ok (.iload_n 1, 1) := by decide +kernel
theorem dX0_shift_12 : decode cX0_shift 12 = .ok (.aload_n 0, 1) := by decide +kernel
theorem dX0_shift_13 : decode cX0_shift 13 = .ok (.getfield 9, 3) := by decide +kernel
theorem dX0_shift_16 : decode cX0_shift 16 = .ok (.iload_n 2, 1) := by decide +kernel
theorem dX0_shift_17 : decode cX0_shift 17 = .ok (.iload_n 3, 1) := by decide +kernel
theorem dX0_shift_18 : decode cX0_shift 18 = .ok (.invokestatic 37, 3) := by decide +kernel
theorem dX0_shift_21 : decode cX0_shift 21 = .ok (.aload_n 0, 1) := by decide +kernel
theorem dX0_shift_22 : decode cX0_shift 22 = .ok (.getfield 15, 3) := by decide +kernel
theorem dX0_shift_25 : decode cX0_shift 25 = .ok (.iload_n 1, 1) := by decide +kernel
theorem dX0_shift_26 : decode cX0_shift 26 = .ok (.aload_n 0, 1) := by decide +kernel
theorem dX0_shift_27 : decode cX0_shift 27 = .ok (.getfield 15, 3) := by decide +kernel
theorem dX0_shift_30 : decode cX0_shift 30 = .ok (.iload_n 2, 1) := by decide +kernel
theorem dX0_shift_31 : decode cX0_shift 31 = .ok (.iload_n 3, 1) := by decide +kernel
theorem dX0_shift_32 : decode cX0_shift 32 = .ok (.invokestatic 37, 3) := by decide +kernel
theorem dX0_shift_35 : decode cX0_shift 35 = .ok (.aload_n 0, 1) := by decide +kernel
theorem dX0_shift_36 : decode cX0_shift 36 = .ok (.getfield 18, 3) := by decide +kernel
theorem dX0_shift_39 : decode cX0_shift 39 = .ok (.iload_n 1, 1) := by decide +kernel
theorem dX0_shift_40 : decode cX0_shift 40 = .ok (.aload_n 0, 1) := by decide +kernel
theorem dX0_shift_41 : decode cX0_shift 41 = .ok (.getfield 18, 3) := by decide +kernel
theorem dX0_shift_44 : decode cX0_shift 44 = .ok (.iload_n 2, 1) := by decide +kernel
theorem dX0_shift_45 : decode cX0_shift 45 = .ok (.iload_n 3, 1) := by decide +kernel
theorem dX0_shift_46 : decode cX0_shift 46 = .ok (.invokestatic 37, 3) := by decide +kernel
theorem dX0_shift_49 : decode cX0_shift 49 = .ok (.return_, 1) := by decide +kernel
theorem dX0_copyFrom_0 : decode cX0_copyFrom 0 = .ok (.aload_n 1, 1) := by decide +kernel
theorem dX0_copyFrom_1 : decode cX0_copyFrom 1 = .ok (.getfield 9, 3) := by decide +kernel
theorem dX0_copyFrom_4 : decode cX0_copyFrom 4 = .ok (.iconst 0, 1) := by decide +kernel
theorem dX0_copyFrom_5 : decode cX0_copyFrom 5 = .ok (.aload_n 0, 1) := by decide +kernel
theorem dX0_copyFrom_6 : decode cX0_copyFrom 6 = .ok (.getfield 9, 3) := by decide +kernel
theorem dX0_copyFrom_9 : decode cX0_copyFrom 9 = .ok (.iconst 0, 1) := by decide +kernel
theorem dX0_copyFrom_10 : decode cX0_copyFrom 10 = .ok (.aload_n 1, 1) := by decide +kernel
theorem dX0_copyFrom_11 : decode cX0_copyFrom 11 = .ok (.getfield 21, 3) := by decide +kernel
theorem dX0_copyFrom_14 : decode cX0_copyFrom 14 = .ok (.invokestatic 37, 3) := by decide +kernel
theorem dX0_copyFrom_17 : decode cX0_copyFrom 17 = .ok (.aload_n 1, 1) := by decide +kernel
theorem dX0_copyFrom_18 : decode cX0_copyFrom 18 = .ok (.getfield 15, 3) := by decide +kernel
theorem dX0_copyFrom_21 : decode cX0_copyFrom 21 = .ok (.iconst 0, 1) := by decide +kernel
theorem dX0_copyFrom_22 : decode cX0_copyFrom 22 = .ok (.aload_n 0, 1) := by decide +kernel
theorem dX0_copyFrom_23 : decode cX0_copyFrom 23 = .ok (.getfield 15, 3) := by decide +kernel
theorem dX0_copyFrom_26 : decode cX0_copyFrom 26 = .ok (.iconst 0, 1) := by decide +kernel
theorem dX0_copyFrom_27 : decode cX0_copyFrom 27 = .ok (.aload_n 1, 1) := by decide +kernel
theorem dX0_copyFrom_28 : decode cX0_copyFrom 28 = .ok (.getfield 21, 3) := by decide +kernel
theorem dX0_copyFrom_31 : decode cX0_copyFrom 31 = .ok (.invokestatic 37, 3) := by decide +kernel
theorem dX0_copyFrom_34 : decode cX0_copyFrom 34 = .ok (.aload_n 1, 1) := by decide +kernel
theorem dX0_copyFrom_35 : decode cX0_copyFrom 35 = .ok (.getfield 18, 3) := by decide +kernel
theorem dX0_copyFrom_38 : decode cX0_copyFrom 38 = .ok (.iconst 0, 1) := by decide +kernel
theorem dX0_copyFrom_39 : decode cX0_copyFrom 39 = .ok (.aload_n 0, 1) := by decide +kernel
theorem dX0_copyFrom_40 : decode cX0_copyFrom 40 = .ok (.getfield 18, 3) := by decide +kernel
theorem dX0_copyFrom_43 : decode cX0_copyFrom 43 = .ok (.iconst 0, 1) := by decide +kernel
theorem dX0_copyFrom_44 : decode cX0_copyFrom 44 = .ok (.aload_n 1, 1) := by decide +kernel
theorem dX0_copyFrom_45 : decode cX0_copyFrom 45 = .ok (.getfield 21, 3) := by decide +kernel
theorem dX0_copyFrom_48 : decode cX0_copyFrom 48 = .ok (.invokestatic 37, 3) := by decide +kernel
theorem dX0_copyFrom_51 : decode cX0_copyFrom 51 = .ok (.aload_n 0, 1) := by decide +kernel
theorem dX0_copyFrom_52 : decode cX0_copyFrom 52 = .ok (.aload_n 1, 1) := by decide +kernel
theorem dX0_copyFrom_53 : decode cX0_copyFrom 53 = .ok (.getfield 21, 3) := by decide +kernel
theorem dX0_copyFrom_56 : decode cX0_copyFrom 56 = .ok (.putfield 21, 3) := by decide +kernel
theorem dX0_copyFrom_59 : decode cX0_copyFrom 59 = .ok (.return_, 1) := by decide +kernel
theorem dX0_fold_0 : decode cX0_fold 0 = .ok (.iconst 0, 1) := by decide +kernel
theorem dX0_fold_1 : decode cX0_fold 1 = .ok (.istore_n 1, 1) := by decide +kernel
theorem dX0_fold_2 : decode cX0_fold 2 = .ok (.iconst 0, 1) := by decide +kernel
theorem dX0_fold_3 : decode cX0_fold 3 = .ok (.istore_n 2, 1) := by decide +kernel
theorem dX0_fold_4 : decode cX0_fold 4 = .ok (.iload_n 2, 1) := by decide +kernel
theorem dX0_fold_5 : decode cX0_fold 5 = .ok (.aload_n 0, 1) := by decide +kernel
theorem dX0_fold_6 : decode cX0_fold 6 = .ok (.getfield 21, 3) := by decide +kernel
theorem dX0_fold_9 : decode cX0_fold 9 = .ok (.if_icmp .ge 40, 3) := by decide +kernel
theorem dX0_fold_12 : decode cX0_fold 12 = .ok (.iload_n 1, 1) := by decide +kernel
theorem dX0_fold_13 : decode cX0_fold 13 = .ok (.bipush 31, 2) := by decide +kernel
theorem dX0_fold_15 : decode cX0_fold 15 = .ok (.imul, 1) := by decide +kernel
theorem dX0_fold_16 : decode cX0_fold 16 = .ok (.aload_n 0, 1) := by decide +kernel
theorem dX0_fold_17 : decode cX0_fold 17 = .ok (.getfield 9, 3) := by decide +kernel
theorem dX0_fold_20 : decode cX0_fold 20 = .ok (.iload_n 2, 1) := by decide +kernel
theorem dX0_fold_21 : decode cX0_fold 21 = .ok (.iaload, 1) := by decide +kernel
theorem dX0_fold_22 : decode cX0_fold 22 = .ok (.iadd, 1) := by decide +kernel
theorem dX0_fold_23 : decode cX0_fold 23 = .ok (.istore_n 1, 1) := by decide +kernel
theorem dX0_fold_24 : decode cX0_fold 24 = .ok (.iload_n 1, 1) := by decide +kernel
theorem dX0_fold_25 : decode cX0_fold 25 = .ok (.bipush 31, 2) := by decide +kernel
theorem dX0_fold_27 : decode cX0_fold 27 = .ok (.imul, 1) := by decide +kernel
theorem dX0_fold_28 : decode cX0_fold 28 = .ok (.aload_n 0, 1) := by decide +kernel
theorem dX0_fold_29 : decode cX0_fold 29 = .ok (.getfield 15, 3) := by decide +kernel
theorem dX0_fold_32 : decode cX0_fold 32 = .ok (.iload_n 2, 1) := by decide +kernel
theorem dX0_fold_33 : decode cX0_fold 33 = .ok (.iaload, 1) := by decide +kernel
theorem dX0_fold_34 : decode cX0_fold 34 = .ok (.iadd, 1) := by decide +kernel
theorem dX0_fold_35 : decode cX0_fold 35 = .ok (.aload_n 0, 1) := by decide +kernel
theorem dX0_fold_36 : decode cX0_fold 36 = .ok (.getfield 18, 3) := by decide +kernel
theorem dX0_fold_39 : decode cX0_fold 39 = .ok (.iload_n 2, 1) := by decide +kernel
theorem dX0_fold_40 : decode cX0_fold 40 = .ok (.iaload, 1) := by decide +kernel
theorem dX0_fold_41 : decode cX0_fold 41 = .ok (.iadd, 1) := by decide +kernel
theorem dX0_fold_42 : decode cX0_fold 42 = .ok (.istore_n 1, 1) := by decide +kernel
theorem dX0_fold_43 : decode cX0_fold 43 = .ok (.iinc 2 1, 3) := by decide +kernel
theorem dX0_fold_46 : decode cX0_fold 46 = .ok (.goto (-42), 3) := by decide +kernel
theorem dX0_fold_49 : decode cX0_fold 49 = .ok (.iload_n 1, 1) := by decide +kernel
theorem dX0_fold_50 : decode cX0_fold 50 = .ok (.ireturn, 1) := by decide +kernel
set_option maxRecDepth 20000 in
theorem ggX1_init_X0_init : GoodIn wsX1_init wsX0_init := goodIn_r _ [13, 14, 2, 3, 9, 15, 16, 17, 18, 19, 20, 21, 22] (by decide +kernel) (by decide +kernel)
set_option maxRecDepth 20000 in
theorem gX1_init_X0_init_n9 : GoodIn wsX1_init (wsX0_init) := ggX1_init_X0_init
theorem dX1_init_0 : decode cX1_init 0 = .ok (.aload_n 0, 1) := by decide +kernel
theorem dX1_init_1 : decode cX1_init 1 = .ok (.invokespecial 1, 3) := by decide +kernel
theorem dX1_init_4 : decode cX1_init 4 = .ok (.aload_n 0, 1) := by decide +kernel
theorem dX1_init_5 : decode cX1_init 5 = .ok (.new 7, 3) := by decide +kernel
theorem dX1_init_8 : decode cX1_init 8 = .ok (.dup, 1) := by decide +kernel
theorem dX1_init_9 : decode cX1_init 9 = .ok (.invokespecial 9, 3) := by decide +kernel
theorem dX1_init_12 : decode cX1_init 12 = .ok (.putfield 10, 3) := by decide +kernel
theorem dX1_init_15 : decode cX1_init 15 = .ok (.aload_n 0, 1) := by decide +kernel
theorem dX1_init_16 : decode cX1_init 16 = .ok (.iconst 3, 1) := by decide +kernel
theorem dX1_init_17 : decode cX1_init 17 = .ok (.anewarray 7, 3) := by decide +kernel
theorem dX1_init_20 : decode cX1_init 20 = .ok (.putfield 16, 3) := by decide +kernel
theorem dX1_init_23 : decode cX1_init 23 = .ok (.iconst 0, 1) := by decide +kernel
theorem dX1_init_24 : decode cX1_init 24 = .ok (.istore_n 1, 1) := by decide +kernel
theorem dX1_init_25 : decode cX1_init 25 = .ok (.iload_n 1, 1) := by decide +kernel
theorem dX1_init_26 : decode cX1_init 26 = .ok (.iconst 3, 1) := by decide +kernel
theorem dX1_init_27 : decode cX1_init 27 = .ok (.if_icmp .ge 22, 3) := by decide +kernel
theorem dX1_init_30 : decode cX1_init 30 = .ok (.aload_n 0, 1) := by decide +kernel
theorem dX1_init_31 : decode cX1_init 31 = .ok (.getfield 16, 3) := by decide +kernel
theorem dX1_init_34 : decode cX1_init 34 = .ok (.iload_n 1, 1) := by decide +kernel
theorem dX1_init_35 : decode cX1_init 35 = .ok (.new 7, 3) := by decide +kernel
theorem dX1_init_38 : decode cX1_init 38 = .ok (.dup, 1) := by decide +kernel
theorem dX1_init_39 : decode cX1_init 39 = .ok (.invokespecial 9, 3) := by decide +kernel
theorem dX1_init_42 : decode cX1_init 42 = .ok (.aastore, 1) := by decide +kernel
theorem dX1_init_43 : decode cX1_init 43 = .ok (.iinc 1 1, 3) := by decide +kernel
theorem dX1_init_46 : decode cX1_init 46 = .ok (.goto (-21), 3) := by decide +kernel
theorem dX1_init_49 : decode cX1_init 49 = .ok (.aload_n 0, 1) := by decide +kernel
theorem dX1_init_50 : decode cX1_init 50 = .ok (.iconst 4, 1) := by decide +kernel
theorem dX1_init_51 : decode cX1_init 51 = .ok (.newarray .int, 2) := by decide +kernel
theorem dX1_init_53 : decode cX1_init 53 = .ok (.putfield 20, 3) := by decide +kernel
theorem dX1_init_56 : decode cX1_init 56 = .ok (.aload_n 0, 1) := by decide +kernel
theorem dX1_init_57 : decode cX1_init 57 = .ok (.iconst 0, 1) := by decide +kernel
theorem dX1_init_58 : decode cX1_init 58 = .ok (.putfield 24, 3) := by decide +kernel
theorem dX1_init_61 : decode cX1_init 61 = .ok (.return_, 1) := by decide +kernel
set_option maxRecDepth 20000 in
theorem ggX1_put_X0_enter : GoodIn wsX1_put wsX0_enter := goodIn_r _ [6, 7, 8, 9, 10, 11, 12, 13, 5, 14, 15, 16, 17, 18, 19, 20, 21, 22, 23, 24, 25, 26, 31, 32, 33, 34] (by decide +kernel) (by decide +kernel)
set_option maxRecDepth 20000 in
theorem gX1_put_X0_enter : GoodIn wsX1_put (wsV RX1 28 RX0 yX0_enter wsX0_enter) := goodIn_app (goodIn_of _ (by decide +kernel)) ggX1_put_X0_enter
theorem dX1_put_0 : decode cX1_put 0 = .ok (.iload_n 3, 1) := by decide +kernel
theorem dX1_put_1 : decode cX1_put 1 = .ok (.ifCond .lt 10, 3) := by decide +kernel
theorem dX1_put_4 : decode cX1_put 4 = .ok (.iload_n 3, 1) := by decide +kernel
theorem dX1_put_5 : decode cX1_put 5 = .ok (.sipush 300, 3) := by decide +kernel
theorem dX1_put_8 : decode cX1_put 8 = .ok (.if_icmp .le 5, 3) := by decide +kernel
theorem dX1_put_11 : decode cX1_put 11 = .ok (.iconst (-1), 1) := by decide +kernel
theorem dX1_put_12 : decode cX1_put 12 = .ok (.ireturn, 1) := by decide +kernel
theorem dX1_put_13 : decode cX1_put 13 = .ok (.aload_n 0, 1) := by decide +kernel
theorem dX1_put_14 : decode cX1_put 14 = .ok (.getfield 10, 3) := by decide +kernel
theorem dX1_put_17 : decode cX1_put 17 = .ok (.iload_n 1, 1) := by decide +kernel
theorem dX1_put_18 : decode cX1_put 18 = .ok (.iload_n 2, 1) := by decide +kernel
theorem dX1_put_19 : decode cX1_put 19 = .ok (.iload_n 3, 1) := by decide +kernel
theorem dX1_put_20 : decode cX1_put 20 = .ok (.invokevirtual 28, 3) := by decide +kernel
theorem dX1_put_23 : decode cX1_put 23 = .ok (.ireturn, 1) := by decide +kernel
set_option maxRecDepth 20000 in
theorem ggX1_some_X1_sizeInRow : GoodIn wsX1_some wsX1_sizeInRow := goodIn_r _ [5] (by decide +kernel) (by decide +kernel)
set_option maxRecDepth 20000 in
theorem gX1_some_X1_sizeInRow : GoodIn wsX1_some (va_wsS RX1 32 yX1_sizeInRow wsX1_sizeInRow) := goodIn_app (goodIn_of _ (by decide +kernel)) ggX1_some_X1_sizeInRow
set_option maxRecDepth 20000 in
theorem ggX1_some_X0_enter : GoodIn wsX1_some wsX0_enter := goodIn_r _ [10, 11, 12, 13, 14, 15, 16, 17, 9, 18, 19, 20, 21, 22, 23, 24, 25, 26, 27, 28, 29, 30, 35, 36, 37, 38] (by decide +kernel) (by decide +kernel)
set_option maxRecDepth 20000 in
theorem gX1_some_X0_enter : GoodIn wsX1_some (wsV RX1 28 RX0 yX0_enter wsX0_enter) := goodIn_app (goodIn_of _ (by decide +kernel)) ggX1_some_X0_enter
theorem dX1_some_0 : decode cX1_some 0 = .ok (.iload_n 3, 1) := by decide +kernel
theorem dX1_some_1 : decode cX1_some 1 = .ok (.iconst 1, 1) := by decide +kernel
theorem dX1_some_2 : decode cX1_some 2 = .ok (.if_icmp .lt 9, 3) := by decide +kernel
theorem dX1_some_5 : decode cX1_some 5 = .ok (.iload_n 3, 1) := by decide +kernel
theorem dX1_some_6 : decode cX1_some 6 = .ok (.bipush 60, 2) := by decide +kernel
theorem dX1_some_8 : decode cX1_some 8 = .ok (.if_icmp .le 5, 3) := by decide +kernel
theorem dX1_some_11 : decode cX1_some 11 = .ok (.iconst (-1), 1) := by decide +kernel
theorem dX1_some_12 : decode cX1_some 12 = .ok (.ireturn, 1) := by decide +kernel
theorem dX1_some_13 : decode cX1_some 13 = .ok (.iconst 0, 1) := by decide +kernel
theorem dX1_some_14 : decode cX1_some 14 = .ok (.istore 5, 2) := by decide +kernel
theorem dX1_some_16 : decode cX1_some 16 = .ok (.iconst 0, 1) := by decide +kernel
theorem dX1_some_17 : decode cX1_some 17 = .ok (.istore 6, 2) := by decide +kernel
theorem dX1_some_19 : decode cX1_some 19 = .ok (.iload 6, 2) := by decide +kernel
theorem dX1_some_21 : decode cX1_some 21 = .ok (.iload_n 3, 1) := by decide +kernel
theorem dX1_some_22 : decode cX1_some 22 = .ok (.if_icmp .ge 41, 3) := by decide +kernel
theorem dX1_some_25 : decode cX1_some 25 = .ok (.aload_n 0, 1) := by decide +kernel
theorem dX1_some_26 : decode cX1_some 26 = .ok (.getfield 10, 3) := by decide +kernel
theorem dX1_some_29 : decode cX1_some 29 = .ok (.iload_n 1, 1) := by decide +kernel
theorem dX1_some_30 : decode cX1_some 30 = .ok (.iload 6, 2) := by decide +kernel
theorem dX1_some_32 : decode cX1_some 32 = .ok (.iload_n 2, 1) := by decide +kernel
theorem dX1_some_33 : decode cX1_some 33 = .ok (.imul, 1) := by decide +kernel
theorem dX1_some_34 : decode cX1_some 34 = .ok (.iadd, 1) := by decide +kernel
theorem dX1_some_35 : decode cX1_some 35 = .ok (.iload 4, 2) := by decide +kernel
theorem dX1_some_37 : decode cX1_some 37 = .ok (.iload 6, 2) := by decide +kernel
theorem dX1_some_39 : decode cX1_some 39 = .ok (.iadd, 1) := by decide +kernel
theorem dX1_some_40 : decode cX1_some 40 = .ok (.iload 4, 2) := by decide +kernel
theorem dX1_some_42 : decode cX1_some 42 = .ok (.iload 6, 2) := by decide +kernel
theorem dX1_some_44 : decode cX1_some 44 = .ok (.invokestatic 32, 3) := by decide +kernel
theorem dX1_some_47 : decode cX1_some 47 = .ok (.invokevirtual 28, 3) := by decide +kernel
theorem dX1_some_50 : decode cX1_some 50 = .ok (.iconst 1, 1) := by decide +kernel
theorem dX1_some_51 : decode cX1_some 51 = .ok (.if_icmp .ne 6, 3) := by decide +kernel
theorem dX1_some_54 : decode cX1_some 54 = .ok (.iinc 5 1, 3) := by decide +kernel
theorem dX1_some_57 : decode cX1_some 57 = .ok (.iinc 6 1, 3) := by decide +kernel
theorem dX1_some_60 : decode cX1_some 60 = .ok (.goto (-41), 3) := by decide +kernel
theorem dX1_some_63 : decode cX1_some 63 = .ok (.iload 5, 2) := by decide +kernel
theorem dX1_some_65 : decode cX1_some 65 = .ok (.ireturn, 1) := by decide +kernel
set_option maxRecDepth 20000 in
theorem ggX1_remove_X0_drop : GoodIn wsX1_remove wsX0_drop := goodIn_r _ [7, 8, 9, 10, 11, 6, 12, 13, 14, 15, 16, 17, 18, 19, 20, 21, 22, 23, 24, 25, 26, 27, 32, 33, 34, 35] (by decide +kernel) (by decide +kernel)
set_option maxRecDepth 20000 in
theorem gX1_remove_X0_drop : GoodIn wsX1_remove (wsV RX1 36 RX0 yX0_drop wsX0_drop) := goodIn_app (goodIn_of _ (by decide +kernel)) ggX1_remove_X0_drop
theorem dX1_remove_0 : decode cX1_remove 0 = .ok (.aload_n 0, 1) := by decide +kernel
theorem dX1_remove_1 : decode cX1_remove 1 = .ok (.getfield 10, 3) := by decide +kernel
theorem dX1_remove_4 : decode cX1_remove 4 = .ok (.iload_n 1, 1) := by decide +kernel
theorem dX1_remove_5 : decode cX1_remove 5 = .ok (.invokevirtual 36, 3) := by decide +kernel
theorem dX1_remove_8 : decode cX1_remove 8 = .ok (.ifCond .eq 13, 3) := by decide +kernel
theorem dX1_remove_11 : decode cX1_remove 11 = .ok (.aload_n 0, 1) := by decide +kernel
theorem dX1_remove_12 : decode cX1_remove 12 = .ok (.getfield 10, 3) := by decide +kernel
theorem dX1_remove_15 : decode cX1_remove 15 = .ok (.getfield 40, 3) := by decide +kernel
theorem dX1_remove_18 : decode cX1_remove 18 = .ok (.goto 5, 3) := by decide +kernel
theorem dX1_remove_21 : decode cX1_remove 21 = .ok (.bipush (-2), 2) := by decide +kernel
theorem dX1_remove_23 : decode cX1_remove 23 = .ok (.ireturn, 1) := by decide +kernel
set_option maxRecDepth 20000 in
theorem ggX1_commit_X1_tableOfRevision : GoodIn wsX1_commit wsX1_tableOfRevision := goodIn_r _ [7, 8, 9, 10, 11, 12, 26, 27, 28, 29] (by decide +kernel) (by decide +kernel)
set_option maxRecDepth 20000 in
theorem gX1_commit_X1_tableOfRevision : GoodIn wsX1_commit (wsV RX1 43 RX1 yX1_tableOfRevision wsX1_tableOfRevision) := goodIn_app (goodIn_of _ (by decide +kernel)) ggX1_commit_X1_tableOfRevision
set_option maxRecDepth 20000 in
theorem ggX1_commit_X0_copyFrom : GoodIn wsX1_commit wsX0_copyFrom := goodIn_r _ [17, 18, 19, 20, 21, 22, 23, 24, 25, 30, 31, 32, 33] (by decide +kernel) (by decide +kernel)
set_option maxRecDepth 20000 in
theorem gX1_commit_X0_copyFrom : GoodIn wsX1_commit (wsV RX1 47 RX0 yX0_copyFrom wsX0_copyFrom) := goodIn_app (goodIn_of _ (by decide +kernel)) ggX1_commit_X0_copyFrom
theorem dX1_commit_0 : decode cX1_commit 0 = .ok (.iload_n 1, 1) := by decide +kernel
theorem dX1_commit_1 : decode cX1_commit 1 = .ok (.ifCond .lt 21, 3) := by decide +kernel
theorem dX1_commit_4 : decode cX1_commit 4 = .ok (.aload_n 0, 1) := by decide +kernel
theorem dX1_commit_5 : decode cX1_commit 5 = .ok (.getfield 10, 3) := by decide +kernel
theorem dX1_commit_8 : decode cX1_commit 8 = .ok (.aload_n 0, 1) := by decide +kernel
theorem dX1_commit_9 : decode cX1_commit 9 = .ok (.aload_n 0, 1) := by decide +kernel
theorem dX1_commit_10 : decode cX1_commit 10 = .ok (.getfield 24, 3) := by decide +kernel
theorem dX1_commit_13 : decode cX1_commit 13 = .ok (.invokevirtual 43, 3) := by decide +kernel
theorem dX1_commit_16 : decode cX1_commit 16 = .ok (.invokevirtual 47, 3) := by decide +kernel
theorem dX1_commit_19 : decode cX1_commit 19 = .ok (.bipush (-5), 2) := by decide +kernel
theorem dX1_commit_21 : decode cX1_commit 21 = .ok (.ireturn, 1) := by decide +kernel
theorem dX1_commit_22 : decode cX1_commit 22 = .ok (.aload_n 0, 1) := by decide +kernel
theorem dX1_commit_23 : decode cX1_commit 23 = .ok (.dup, 1) := by decide +kernel
theorem dX1_commit_24 : decode cX1_commit 24 = .ok (.getfield 24, 3) := by decide +kernel
theorem dX1_commit_27 : decode cX1_commit 27 = .ok (.iconst 1, 1) := by decide +kernel
theorem dX1_commit_28 : decode cX1_commit 28 = .ok (.iadd, 1) := by decide +kernel
theorem dX1_commit_29 : decode cX1_commit 29 = .ok (.putfield 24, 3) := by decide +kernel
theorem dX1_commit_32 : decode cX1_commit 32 = .ok (.aload_n 0, 1) := by decide +kernel
theorem dX1_commit_33 : decode cX1_commit 33 = .ok (.aload_n 0, 1) := by decide +kernel
theorem dX1_commit_34 : decode cX1_commit 34 = .ok (.getfield 24, 3) := by decide +kernel
theorem dX1_commit_37 : decode cX1_commit 37 = .ok (.invokevirtual 43, 3) := by decide +kernel
theorem dX1_commit_40 : decode cX1_commit 40 = .ok (.aload_n 0, 1) := by decide +kernel
theorem dX1_commit_41 : decode cX1_commit 41 = .ok (.getfield 10, 3) := by decide +kernel
theorem dX1_commit_44 : decode cX1_commit 44 = .ok (.invokevirtual 47, 3) := by decide +kernel
theorem dX1_commit_47 : decode cX1_commit 47 = .ok (.aload_n 0, 1) := by decide +kernel
theorem dX1_commit_48 : decode cX1_commit 48 = .ok (.getfield 24, 3) := by decide +kernel
theorem dX1_commit_51 : decode cX1_commit 51 = .ok (.ireturn, 1) := by decide +kernel
set_option maxRecDepth 20000 in
theorem ggX1_forget_X1_tableOfRevision : GoodIn wsX1_forget wsX1_tableOfRevision := goodIn_r _ [8, 9, 10, 11, 12, 13, 27, 28, 29, 30] (by decide +kernel) (by decide +kernel)
set_option maxRecDepth 20000 in
theorem gX1_forget_X1_tableOfRevision : GoodIn wsX1_forget (wsV RX1 43 RX1 yX1_tableOfRevision wsX1_tableOfRevision) := goodIn_app (goodIn_of _ (by decide +kernel)) ggX1_forget_X1_tableOfRevision
set_option maxRecDepth 20000 in
theorem ggX1_forget_X0_copyFrom : GoodIn wsX1_forget wsX0_copyFrom := goodIn_r _ [18, 19, 20, 21, 22, 23, 24, 25, 26, 31, 32, 33, 34] (by decide +kernel) (by decide +kernel)
set_option maxRecDepth 20000 in
theorem gX1_forget_X0_copyFrom : GoodIn wsX1_forget (wsV RX1 47 RX0 yX0_copyFrom wsX0_copyFrom) := goodIn_app (goodIn_of _ (by decide +kernel)) ggX1_forget_X0_copyFrom
theorem dX1_forget_0 : decode cX1_forget 0 = .ok (.aload_n 0, 1) := by decide +kernel
theorem dX1_forget_1 : decode cX1_forget 1 = .ok (.getfield 10, 3) := by decide +kernel
theorem dX1_forget_4 : decode cX1_forget 4 = .ok (.aload_n 0, 1) := by decide +kernel
theorem dX1_forget_5 : decode cX1_forget 5 = .ok (.aload_n 0, 1) := by decide +kernel
theorem dX1_forget_6 : decode cX1_forget 6 = .ok (.getfield 24, 3) := by decide +kernel
theorem dX1_forget_9 : decode cX1_forget 9 = .ok (.invokevirtual 43, 3) := by decide +kernel
theorem dX1_forget_12 : decode cX1_forget 12 = .ok (.invokevirtual 47, 3) := by decide +kernel
theorem dX1_forget_15 : decode cX1_forget 15 = .ok (.aload_n 0, 1) := by decide +kernel
theorem dX1_forget_16 : decode cX1_forget 16 = .ok (.getfield 10, 3) := by decide +kernel
theorem dX1_forget_19 : decode cX1_forget 19 = .ok (.getfield 40, 3) := by decide +kernel
theorem dX1_forget_22 : decode cX1_forget 22 = .ok (.ireturn, 1) := by decide +kernel
theorem dX1_open_0 : decode cX1_open 0 = .ok (.iload_n 1, 1) := by decide +kernel
theorem dX1_open_1 : decode cX1_open 1 = .ok (.ifCond .lt 8, 3) := by decide +kernel
theorem dX1_open_4 : decode cX1_open 4 = .ok (.iload_n 1, 1) := by decide +kernel
theorem dX1_open_5 : decode cX1_open 5 = .ok (.iconst 4, 1) := by decide +kernel
theorem dX1_open_6 : decode cX1_open 6 = .ok (.if_icmp .lt 5, 3) := by decide +kernel
theorem dX1_open_9 : decode cX1_open 9 = .ok (.iconst (-1), 1) := by decide +kernel
theorem dX1_open_10 : decode cX1_open 10 = .ok (.ireturn, 1) := by decide +kernel
theorem dX1_open_11 : decode cX1_open 11 = .ok (.aload_n 0, 1) := by decide +kernel
theorem dX1_open_12 : decode cX1_open 12 = .ok (.getfield 20, 3) := by decide +kernel
theorem dX1_open_15 : decode cX1_open 15 = .ok (.iload_n 1, 1) := by decide +kernel
theorem dX1_open_16 : decode cX1_open 16 = .ok (.aload_n 0, 1) := by decide +kernel
theorem dX1_open_17 : decode cX1_open 17 = .ok (.getfield 24, 3) := by decide +kernel
theorem dX1_open_20 : decode cX1_open 20 = .ok (.iastore, 1) := by decide +kernel
theorem dX1_open_21 : decode cX1_open 21 = .ok (.aload_n 0, 1) := by decide +kernel
theorem dX1_open_22 : decode cX1_open 22 = .ok (.getfield 24, 3) := by decide +kernel
theorem dX1_open_25 : decode cX1_open 25 = .ok (.ireturn, 1) := by decide +kernel
set_option maxRecDepth 20000 in
theorem ggX1_get_X1_stateOfReader : GoodIn wsX1_get wsX1_stateOfReader := goodIn_r _ [8, 9, 10, 40, 41, 42, 43] (by decide +kernel) (by decide +kernel)
set_option maxRecDepth 20000 in
theorem gX1_get_X1_stateOfReader : GoodIn wsX1_get (wsV RX1 51 RX1 yX1_stateOfReader wsX1_stateOfReader) := goodIn_app (goodIn_of _ (by decide +kernel)) ggX1_get_X1_stateOfReader
set_option maxRecDepth 20000 in
theorem ggX1_get_X1_tableOfReader : GoodIn wsX1_get wsX1_tableOfReader := goodIn_r _ [14, 15, 10, 16, 17, 18, 7, 19, 20, 21, 22, 23, 24, 40, 41, 42, 43] (by decide +kernel) (by decide +kernel)
set_option maxRecDepth 20000 in
theorem gX1_get_X1_tableOfReader : GoodIn wsX1_get (wsV RX1 57 RX1 yX1_tableOfReader wsX1_tableOfReader) := goodIn_app (goodIn_of _ (by decide +kernel)) ggX1_get_X1_tableOfReader
set_option maxRecDepth 20000 in
theorem ggX1_get_X0_placeOf : GoodIn wsX1_get wsX0_placeOf := goodIn_r _ [29, 30, 31, 36, 37, 38, 39] (by decide +kernel) (by decide +kernel)
set_option maxRecDepth 20000 in
theorem gX1_get_X0_placeOf : GoodIn wsX1_get (wsV RX1 60 RX0 yX0_placeOf wsX0_placeOf) := goodIn_app (goodIn_of _ (by decide +kernel)) ggX1_get_X0_placeOf
set_option maxRecDepth 20000 in
theorem ggX1_get_X0_hasAt : GoodIn wsX1_get wsX0_hasAt := goodIn_r _ [35, 30, 31, 36, 37, 38, 39] (by decide +kernel) (by decide +kernel)
set_option maxRecDepth 20000 in
theorem gX1_get_X0_hasAt : GoodIn wsX1_get (wsV RX1 63 RX0 yX0_hasAt wsX0_hasAt) := goodIn_app (goodIn_of _ (by decide +kernel)) ggX1_get_X0_hasAt
theorem dX1_get_0 : decode cX1_get 0 = .ok (.aload_n 0, 1) := by decide +kernel
theorem dX1_get_1 : decode cX1_get 1 = .ok (.iload_n 1, 1) := by decide +kernel
theorem dX1_get_2 : decode cX1_get 2 = .ok (.invokevirtual 51, 3) := by decide +kernel
theorem dX1_get_5 : decode cX1_get 5 = .ok (.istore_n 3, 1) := by decide +kernel
theorem dX1_get_6 : decode cX1_get 6 = .ok (.iload_n 3, 1) := by decide +kernel
theorem dX1_get_7 : decode cX1_get 7 = .ok (.ifCond .eq 10, 3) := by decide +kernel
theorem dX1_get_10 : decode cX1_get 10 = .ok (.ldc2_w 55, 3) := by decide +kernel
theorem dX1_get_13 : decode cX1_get 13 = .ok (.iload_n 3, 1) := by decide +kernel
theorem dX1_get_14 : decode cX1_get 14 = .ok (.i2l, 1) := by decide +kernel
theorem dX1_get_15 : decode cX1_get 15 = .ok (.ladd, 1) := by decide +kernel
theorem dX1_get_16 : decode cX1_get 16 = .ok (.lreturn, 1) := by decide +kernel
theorem dX1_get_17 : decode cX1_get 17 = .ok (.aload_n 0, 1) := by decide +kernel
theorem dX1_get_18 : decode cX1_get 18 = .ok (.iload_n 1, 1) := by decide +kernel
theorem dX1_get_19 : decode cX1_get 19 = .ok (.invokevirtual 57, 3) := by decide +kernel
theorem dX1_get_22 : decode cX1_get 22 = .ok (.astore 4, 2) := by decide +kernel
theorem dX1_get_24 : decode cX1_get 24 = .ok (.aload 4, 2) := by decide +kernel
theorem dX1_get_26 : decode cX1_get 26 = .ok (.iload_n 2, 1) := by decide +kernel
theorem dX1_get_27 : decode cX1_get 27 = .ok (.invokevirtual 60, 3) := by decide +kernel
theorem dX1_get_30 : decode cX1_get 30 = .ok (.istore 5, 2) := by decide +kernel
theorem dX1_get_32 : decode cX1_get 32 = .ok (.aload 4, 2) := by decide +kernel
theorem dX1_get_34 : decode cX1_get 34 = .ok (.iload 5, 2) := by decide +kernel
theorem dX1_get_36 : decode cX1_get 36 = .ok (.iload_n 2, 1) := by decide +kernel
theorem dX1_get_37 : decode cX1_get 37 = .ok (.invokevirtual 63, 3) := by decide +kernel
theorem dX1_get_40 : decode cX1_get 40 = .ok (.ifCond .eq 15, 3) := by decide +kernel
theorem dX1_get_43 : decode cX1_get 43 = .ok (.aload 4, 2) := by decide +kernel
theorem dX1_get_45 : decode cX1_get 45 = .ok (.getfield 67, 3) := by decide +kernel
theorem dX1_get_48 : decode cX1_get 48 = .ok (.iload 5, 2) := by decide +kernel
theorem dX1_get_50 : decode cX1_get 50 = .ok (.iaload, 1) := by decide +kernel
theorem dX1_get_51 : decode cX1_get 51 = .ok (.i2l, 1) := by decide +kernel
theorem dX1_get_52 : decode cX1_get 52 = .ok (.goto 6, 3) := by decide +kernel
theorem dX1_get_55 : decode cX1_get 55 = .ok (.ldc2_w 70, 3) := by decide +kernel
theorem dX1_get_58 : decode cX1_get 58 = .ok (.lreturn, 1) := by decide +kernel
set_option maxRecDepth 20000 in
theorem ggX1_next_X1_stateOfReader : GoodIn wsX1_next wsX1_stateOfReader := goodIn_r _ [9, 10, 11, 45, 46, 47, 48] (by decide +kernel) (by decide +kernel)
set_option maxRecDepth 20000 in
theorem gX1_next_X1_stateOfReader : GoodIn wsX1_next (wsV RX1 51 RX1 yX1_stateOfReader wsX1_stateOfReader) := goodIn_app (goodIn_of _ (by decide +kernel)) ggX1_next_X1_stateOfReader
set_option maxRecDepth 20000 in
theorem ggX1_next_X1_tableOfReader : GoodIn wsX1_next wsX1_tableOfReader := goodIn_r _ [15, 16, 11, 17, 18, 19, 8, 20, 21, 22, 23, 24, 25, 45, 46, 47, 48] (by decide +kernel) (by decide +kernel)
set_option maxRecDepth 20000 in
theorem gX1_next_X1_tableOfReader : GoodIn wsX1_next (wsV RX1 57 RX1 yX1_tableOfReader wsX1_tableOfReader) := goodIn_app (goodIn_of _ (by decide +kernel)) ggX1_next_X1_tableOfReader
set_option maxRecDepth 20000 in
theorem ggX1_next_X0_placeAbove : GoodIn wsX1_next wsX0_placeAbove := goodIn_r _ [30, 31, 32, 33, 29, 34, 35, 36, 37, 38, 39, 40, 41, 42, 43, 44] (by decide +kernel) (by decide +kernel)
set_option maxRecDepth 20000 in
theorem gX1_next_X0_placeAbove : GoodIn wsX1_next (wsV RX1 72 RX0 yX0_placeAbove wsX0_placeAbove) := goodIn_app (goodIn_of _ (by decide +kernel)) ggX1_next_X0_placeAbove
theorem dX1_next_0 : decode cX1_next 0 = .ok (.aload_n 0, 1) := by decide +kernel
theorem dX1_next_1 : decode cX1_next 1 = .ok (.iload_n 1, 1) := by decide +kernel
theorem dX1_next_2 : decode cX1_next 2 = .ok (.invokevirtual 51, 3) := by decide +kernel
theorem dX1_next_5 : decode cX1_next 5 = .ok (.istore_n 3, 1) := by decide +kernel
theorem dX1_next_6 : decode cX1_next 6 = .ok (.iload_n 3, 1) := by decide +kernel
theorem dX1_next_7 : decode cX1_next 7 = .ok (.ifCond .eq 10, 3) := by decide +kernel
theorem dX1_next_10 : decode cX1_next 10 = .ok (.ldc2_w 55, 3) := by decide +kernel
theorem dX1_next_13 : decode cX1_next 13 = .ok (.iload_n 3, 1) := by decide +kernel
theorem dX1_next_14 : decode cX1_next 14 = .ok (.i2l, 1) := by decide +kernel
theorem dX1_next_15 : decode cX1_next 15 = .ok (.ladd, 1) := by decide +kernel
theorem dX1_next_16 : decode cX1_next 16 = .ok (.lreturn, 1) := by decide +kernel
theorem dX1_next_17 : decode cX1_next 17 = .ok (.aload_n 0, 1) := by decide +kernel
theorem dX1_next_18 : decode cX1_next 18 = .ok (.iload_n 1, 1) := by decide +kernel
theorem dX1_next_19 : decode cX1_next 19 = .ok (.invokevirtual 57, 3) := by decide +kernel
theorem dX1_next_22 : decode cX1_next 22 = .ok (.astore 4, 2) := by decide +kernel
theorem dX1_next_24 : decode cX1_next 24 = .ok (.aload 4, 2) := by decide +kernel
theorem dX1_next_26 : decode cX1_next 26 = .ok (.iload_n 2, 1) := by decide +kernel
theorem dX1_next_27 : decode cX1_next 27 = .ok (.invokevirtual 72, 3) := by decide +kernel
theorem dX1_next_30 : decode cX1_next 30 = .ok (.istore 5, 2) := by decide +kernel
theorem dX1_next_32 : decode cX1_next 32 = .ok (.iload 5, 2) := by decide +kernel
theorem dX1_next_34 : decode cX1_next 34 = .ok (.aload 4, 2) := by decide +kernel
theorem dX1_next_36 : decode cX1_next 36 = .ok (.getfield 40, 3) := by decide +kernel
theorem dX1_next_39 : decode cX1_next 39 = .ok (.if_icmp .ge 15, 3) := by decide +kernel
theorem dX1_next_42 : decode cX1_next 42 = .ok (.aload 4, 2) := by decide +kernel
theorem dX1_next_44 : decode cX1_next 44 = .ok (.getfield 75, 3) := by decide +kernel
theorem dX1_next_47 : decode cX1_next 47 = .ok (.iload 5, 2) := by decide +kernel
theorem dX1_next_49 : decode cX1_next 49 = .ok (.iaload, 1) := by decide +kernel
theorem dX1_next_50 : decode cX1_next 50 = .ok (.i2l, 1) := by decide +kernel
theorem dX1_next_51 : decode cX1_next 51 = .ok (.goto 6, 3) := by decide +kernel
theorem dX1_next_54 : decode cX1_next 54 = .ok (.ldc2_w 70, 3) := by decide +kernel
theorem dX1_next_57 : decode cX1_next 57 = .ok (.lreturn, 1) := by decide +kernel
set_option maxRecDepth 20000 in
theorem ggX1_size_X1_stateOfReader : GoodIn wsX1_size wsX1_stateOfReader := goodIn_r _ [6, 7, 8, 38, 39, 40, 41] (by decide +kernel) (by decide +kernel)
set_option maxRecDepth 20000 in
theorem gX1_size_X1_stateOfReader : GoodIn wsX1_size (wsV RX1 51 RX1 yX1_stateOfReader wsX1_stateOfReader) := goodIn_app (goodIn_of _ (by decide +kernel)) ggX1_size_X1_stateOfReader
set_option maxRecDepth 20000 in
theorem ggX1_size_X1_tableOfReader : GoodIn wsX1_size wsX1_tableOfReader := goodIn_r _ [12, 13, 8, 14, 15, 16, 5, 17, 18, 19, 20, 21, 22, 38, 39, 40, 41] (by decide +kernel) (by decide +kernel)
set_option maxRecDepth 20000 in
theorem gX1_size_X1_tableOfReader : GoodIn wsX1_size (wsV RX1 57 RX1 yX1_tableOfReader wsX1_tableOfReader) := goodIn_app (goodIn_of _ (by decide +kernel)) ggX1_size_X1_tableOfReader
set_option maxRecDepth 20000 in
theorem ggX1_size_X0_placeOf : GoodIn wsX1_size wsX0_placeOf := goodIn_r _ [27, 28, 29, 34, 35, 36, 37] (by decide +kernel) (by decide +kernel)
set_option maxRecDepth 20000 in
theorem gX1_size_X0_placeOf : GoodIn wsX1_size (wsV RX1 60 RX0 yX0_placeOf wsX0_placeOf) := goodIn_app (goodIn_of _ (by decide +kernel)) ggX1_size_X0_placeOf
set_option maxRecDepth 20000 in
theorem ggX1_size_X0_hasAt : GoodIn wsX1_size wsX0_hasAt := goodIn_r _ [33, 28, 29, 34, 35, 36, 37] (by decide +kernel) (by decide +kernel)
set_option maxRecDepth 20000 in
theorem gX1_size_X0_hasAt : GoodIn wsX1_size (wsV RX1 63 RX0 yX0_hasAt wsX0_hasAt) := goodIn_app (goodIn_of _ (by decide +kernel)) ggX1_size_X0_hasAt
theorem dX1_size_0 : decode cX1_size 0 = .ok (.aload_n 0, 1) := by decide +kernel
theorem dX1_size_1 : decode cX1_size 1 = .ok (.iload_n 1, 1) := by decide +kernel
theorem dX1_size_2 : decode cX1_size 2 = .ok (.invokevirtual 51, 3) := by decide +kernel
theorem dX1_size_5 : decode cX1_size 5 = .ok (.istore_n 3, 1) := by decide +kernel
theorem dX1_size_6 : decode cX1_size 6 = .ok (.iload_n 3, 1) := by decide +kernel
theorem dX1_size_7 : decode cX1_size 7 = .ok (.ifCond .eq 5, 3) := by decide +kernel
theorem dX1_size_10 : decode cX1_size 10 = .ok (.iload_n 3, 1) := by decide +kernel
theorem dX1_size_11 : decode cX1_size 11 = .ok (.ireturn, 1) := by decide +kernel
theorem dX1_size_12 : decode cX1_size 12 = .ok (.aload_n 0, 1) := by decide +kernel
theorem dX1_size_13 : decode cX1_size 13 = .ok (.iload_n 1, 1) := by decide +kernel
theorem dX1_size_14 : decode cX1_size 14 = .ok (.invokevirtual 57, 3) := by decide +kernel
theorem dX1_size_17 : decode cX1_size 17 = .ok (.astore 4, 2) := by decide +kernel
theorem dX1_size_19 : decode cX1_size 19 = .ok (.aload 4, 2) := by decide +kernel
theorem dX1_size_21 : decode cX1_size 21 = .ok (.iload_n 2, 1) := by decide +kernel
theorem dX1_size_22 : decode cX1_size 22 = .ok (.invokevirtual 60, 3) := by decide +kernel
theorem dX1_size_25 : decode cX1_size 25 = .ok (.istore 5, 2) := by decide +kernel
theorem dX1_size_27 : decode cX1_size 27 = .ok (.aload 4, 2) := by decide +kernel
theorem dX1_size_29 : decode cX1_size 29 = .ok (.iload 5, 2) := by decide +kernel
theorem dX1_size_31 : decode cX1_size 31 = .ok (.iload_n 2, 1) := by decide +kernel
theorem dX1_size_32 : decode cX1_size 32 = .ok (.invokevirtual 63, 3) := by decide +kernel
theorem dX1_size_35 : decode cX1_size 35 = .ok (.ifCond .eq 14, 3) := by decide +kernel
theorem dX1_size_38 : decode cX1_size 38 = .ok (.aload 4, 2) := by decide +kernel
theorem dX1_size_40 : decode cX1_size 40 = .ok (.getfield 78, 3) := by decide +kernel
theorem dX1_size_43 : decode cX1_size 43 = .ok (.iload 5, 2) := by decide +kernel
theorem dX1_size_45 : decode cX1_size 45 = .ok (.iaload, 1) := by decide +kernel
theorem dX1_size_46 : decode cX1_size 46 = .ok (.goto 5, 3) := by decide +kernel
theorem dX1_size_49 : decode cX1_size 49 = .ok (.bipush (-2), 2) := by decide +kernel
theorem dX1_size_51 : decode cX1_size 51 = .ok (.ireturn, 1) := by decide +kernel
set_option maxRecDepth 20000 in
theorem ggX1_count_X1_stateOfReader : GoodIn wsX1_count wsX1_stateOfReader := goodIn_r _ [6, 7, 8, 27, 28, 29, 30] (by decide +kernel) (by decide +kernel)
set_option maxRecDepth 20000 in
theorem gX1_count_X1_stateOfReader : GoodIn wsX1_count (wsV RX1 51 RX1 yX1_stateOfReader wsX1_stateOfReader) := goodIn_app (goodIn_of _ (by decide +kernel)) ggX1_count_X1_stateOfReader
set_option maxRecDepth 20000 in
theorem ggX1_count_X1_tableOfReader : GoodIn wsX1_count wsX1_tableOfReader := goodIn_r _ [12, 13, 8, 14, 15, 16, 5, 17, 18, 19, 20, 21, 22, 27, 28, 29, 30] (by decide +kernel) (by decide +kernel)
set_option maxRecDepth 20000 in
theorem gX1_count_X1_tableOfReader : GoodIn wsX1_count (wsV RX1 57 RX1 yX1_tableOfReader wsX1_tableOfReader) := goodIn_app (goodIn_of _ (by decide +kernel)) ggX1_count_X1_tableOfReader
theorem dX1_count_0 : decode cX1_count 0 = .ok (.aload_n 0, 1) := by decide +kernel
theorem dX1_count_1 : decode cX1_count 1 = .ok (.iload_n 1, 1) := by decide +kernel
theorem dX1_count_2 : decode cX1_count 2 = .ok (.invokevirtual 51, 3) := by decide +kernel
theorem dX1_count_5 : decode cX1_count 5 = .ok (.istore_n 2, 1) := by decide +kernel
theorem dX1_count_6 : decode cX1_count 6 = .ok (.iload_n 2, 1) := by decide +kernel
theorem dX1_count_7 : decode cX1_count 7 = .ok (.ifCond .ne 14, 3) := by decide +kernel
theorem dX1_count_10 : decode cX1_count 10 = .ok (.aload_n 0, 1) := by decide +kernel
theorem dX1_count_11 : decode cX1_count 11 = .ok (.iload_n 1, 1) := by decide +kernel
theorem dX1_count_12 : decode cX1_count 12 = .ok (.invokevirtual 57, 3) := by decide +kernel
theorem dX1_count_15 : decode cX1_count 15 = .ok (.getfield 40, 3) := by decide +kernel
theorem dX1_count_18 : decode cX1_count 18 = .ok (.goto 4, 3) := by decide +kernel
theorem dX1_count_21 : decode cX1_count 21 = .ok (.iload_n 2, 1) := by decide +kernel
theorem dX1_count_22 : decode cX1_count 22 = .ok (.ireturn, 1) := by decide +kernel
set_option maxRecDepth 20000 in
theorem ggX1_digest_X1_stateOfReader : GoodIn wsX1_digest wsX1_stateOfReader := goodIn_r _ [5, 6, 7, 31, 32, 33, 34] (by decide +kernel) (by decide +kernel)
set_option maxRecDepth 20000 in
theorem gX1_digest_X1_stateOfReader : GoodIn wsX1_digest (wsV RX1 51 RX1 yX1_stateOfReader wsX1_stateOfReader) := goodIn_app (goodIn_of _ (by decide +kernel)) ggX1_digest_X1_stateOfReader
set_option maxRecDepth 20000 in
theorem ggX1_digest_X1_tableOfReader : GoodIn wsX1_digest wsX1_tableOfReader := goodIn_r _ [11, 12, 7, 13, 14, 15, 4, 16, 17, 18, 19, 20, 21, 31, 32, 33, 34] (by decide +kernel) (by decide +kernel)
set_option maxRecDepth 20000 in
theorem gX1_digest_X1_tableOfReader : GoodIn wsX1_digest (wsV RX1 57 RX1 yX1_tableOfReader wsX1_tableOfReader) := goodIn_app (goodIn_of _ (by decide +kernel)) ggX1_digest_X1_tableOfReader
set_option maxRecDepth 20000 in
theorem ggX1_digest_X0_fold : GoodIn wsX1_digest wsX0_fold := goodIn_r _ [26, 27, 28, 29, 30, 35, 36, 37, 38] (by decide +kernel) (by decide +kernel)
set_option maxRecDepth 20000 in
theorem gX1_digest_X0_fold : GoodIn wsX1_digest (wsV RX1 81 RX0 yX0_fold wsX0_fold) := goodIn_app (goodIn_of _ (by decide +kernel)) ggX1_digest_X0_fold
theorem dX1_digest_0 : decode cX1_digest 0 = .ok (.aload_n 0, 1) := by decide +kernel
theorem dX1_digest_1 : decode cX1_digest 1 = .ok (.iload_n 1, 1) := by decide +kernel
theorem dX1_digest_2 : decode cX1_digest 2 = .ok (.invokevirtual 51, 3) := by decide +kernel
theorem dX1_digest_5 : decode cX1_digest 5 = .ok (.istore_n 2, 1) := by decide +kernel
theorem dX1_digest_6 : decode cX1_digest 6 = .ok (.iload_n 2, 1) := by decide +kernel
theorem dX1_digest_7 : decode cX1_digest 7 = .ok (.ifCond .ne 14, 3) := by decide +kernel
theorem dX1_digest_10 : decode cX1_digest 10 = .ok (.aload_n 0, 1) := by decide +kernel
theorem dX1_digest_11 : decode cX1_digest 11 = .ok (.iload_n 1, 1) := by decide +kernel
theorem dX1_digest_12 : decode cX1_digest 12 = .ok (.invokevirtual 57, 3) := by decide +kernel
theorem dX1_digest_15 : decode cX1_digest 15 = .ok (.invokevirtual 81, 3) := by decide +kernel
theorem dX1_digest_18 : decode cX1_digest 18 = .ok (.goto 4, 3) := by decide +kernel
theorem dX1_digest_21 : decode cX1_digest 21 = .ok (.iload_n 2, 1) := by decide +kernel
theorem dX1_digest_22 : decode cX1_digest 22 = .ok (.ireturn, 1) := by decide +kernel
theorem dX1_sizeInRow_0 : decode cX1_sizeInRow 0 = .ok (.iload_n 1, 1) := by decide +kernel
theorem dX1_sizeInRow_1 : decode cX1_sizeInRow 1 = .ok (.iconst 2, 1) := by decide +kernel
theorem dX1_sizeInRow_2 : decode cX1_sizeInRow 2 = .ok (.irem, 1) := by decide +kernel
theorem dX1_sizeInRow_3 : decode cX1_sizeInRow 3 = .ok (.ifCond .ne 7, 3) := by decide +kernel
theorem dX1_sizeInRow_6 : decode cX1_sizeInRow 6 = .ok (.iconst 0, 1) := by decide +kernel
theorem dX1_sizeInRow_7 : decode cX1_sizeInRow 7 = .ok (.goto 12, 3) := by decide +kernel
theorem dX1_sizeInRow_10 : decode cX1_sizeInRow 10 = .ok (.iload_n 0, 1) := by decide +kernel
theorem dX1_sizeInRow_11 : decode cX1_sizeInRow 11 = .ok (.bipush 7, 2) := by decide +kernel
theorem dX1_sizeInRow_13 : decode cX1_sizeInRow 13 = .ok (.iload_n 1, 1) := by decide +kernel
theorem dX1_sizeInRow_14 : decode cX1_sizeInRow 14 = .ok (.imul, 1) := by decide +kernel
theorem dX1_sizeInRow_15 : decode cX1_sizeInRow 15 = .ok (.iadd, 1) := by decide +kernel
theorem dX1_sizeInRow_16 : decode cX1_sizeInRow 16 = .ok (.bipush 127, 2) := by decide +kernel
theorem dX1_sizeInRow_18 : decode cX1_sizeInRow 18 = .ok (.iand, 1) := by decide +kernel
theorem dX1_sizeInRow_19 : decode cX1_sizeInRow 19 = .ok (.ireturn, 1) := by decide +kernel
theorem dX1_stateOfReader_0 : decode cX1_stateOfReader 0 = .ok (.iload_n 1, 1) := by decide +kernel
theorem dX1_stateOfReader_1 : decode cX1_stateOfReader 1 = .ok (.iconst (-1), 1) := by decide +kernel
theorem dX1_stateOfReader_2 : decode cX1_stateOfReader 2 = .ok (.if_icmp .lt 8, 3) := by decide +kernel
theorem dX1_stateOfReader_5 : decode cX1_stateOfReader 5 = .ok (.iload_n 1, 1) := by decide +kernel
theorem dX1_stateOfReader_6 : decode cX1_stateOfReader 6 = .ok (.iconst 4, 1) := by decide +kernel
theorem dX1_stateOfReader_7 : decode cX1_stateOfReader 7 = .ok (.if_icmp .lt 5, 3) := by decide +kernel
theorem dX1_stateOfReader_10 : decode cX1_stateOfReader 10 = .ok (.iconst (-1), 1) := by decide +kernel
theorem dX1_stateOfReader_11 : decode cX1_stateOfReader 11 = .ok (.ireturn, 1) := by decide +kernel
theorem dX1_stateOfReader_12 : decode cX1_stateOfReader 12 = .ok (.iload_n 1, 1) := by decide +kernel
theorem dX1_stateOfReader_13 : decode cX1_stateOfReader 13 = .ok (.ifCond .lt 21, 3) := by decide +kernel
theorem dX1_stateOfReader_16 : decode cX1_stateOfReader 16 = .ok (.aload_n 0, 1) := by decide +kernel
theorem dX1_stateOfReader_17 : decode cX1_stateOfReader 17 = .ok (.getfield 24, 3) := by decide +kernel
theorem dX1_stateOfReader_20 : decode cX1_stateOfReader 20 = .ok (.aload_n 0, 1) := by decide +kernel
theorem dX1_stateOfReader_21 : decode cX1_stateOfReader 21 = .ok (.getfield 20, 3) := by decide +kernel
theorem dX1_stateOfReader_24 : decode cX1_stateOfReader 24 = .ok (.iload_n 1, 1) := by decide +kernel
theorem dX1_stateOfReader_25 : decode cX1_stateOfReader 25 = .ok (.iaload, 1) := by decide +kernel
theorem dX1_stateOfReader_26 : decode cX1_stateOfReader 26 = .ok (.isub, 1) := by decide +kernel
theorem dX1_stateOfReader_27 : decode cX1_stateOfReader 27 = .ok (.iconst 3, 1) := by decide +kernel
theorem dX1_stateOfReader_28 : decode cX1_stateOfReader 28 = .ok (.if_icmp .lt 6, 3) := by decide +kernel
theorem dX1_stateOfReader_31 : decode cX1_stateOfReader 31 = .ok (.bipush (-4), 2) := by decide +kernel
theorem dX1_stateOfReader_33 : decode cX1_stateOfReader 33 = .ok (.ireturn, 1) := by decide +kernel
theorem dX1_stateOfReader_34 : decode cX1_stateOfReader 34 = .ok (.iconst 0, 1) := by decide +kernel
theorem dX1_stateOfReader_35 : decode cX1_stateOfReader 35 = .ok (.ireturn, 1) := by decide +kernel
set_option maxRecDepth 20000 in
theorem ggX1_tableOfReader_X1_tableOfRevision : GoodIn wsX1_tableOfReader wsX1_tableOfRevision := goodIn_r _ [7, 8, 9, 10, 11, 12, 13, 14, 15, 16] (by decide +kernel) (by decide +kernel)
set_option maxRecDepth 20000 in
theorem gX1_tableOfReader_X1_tableOfRevision : GoodIn wsX1_tableOfReader (wsV RX1 43 RX1 yX1_tableOfRevision wsX1_tableOfRevision) := goodIn_app (goodIn_of _ (by decide +kernel)) ggX1_tableOfReader_X1_tableOfRevision
theorem dX1_tableOfReader_0 : decode cX1_tableOfReader 0 = .ok (.iload_n 1, 1) := by decide +kernel
theorem dX1_tableOfReader_1 : decode cX1_tableOfReader 1 = .ok (.ifCond .ge 10, 3) := by decide +kernel
theorem dX1_tableOfReader_4 : decode cX1_tableOfReader 4 = .ok (.aload_n 0, 1) := by decide +kernel
theorem dX1_tableOfReader_5 : decode cX1_tableOfReader 5 = .ok (.getfield 10, 3) := by decide +kernel
theorem dX1_tableOfReader_8 : decode cX1_tableOfReader 8 = .ok (.goto 13, 3) := by decide +kernel
theorem dX1_tableOfReader_11 : decode cX1_tableOfReader 11 = .ok (.aload_n 0, 1) := by decide +kernel
theorem dX1_tableOfReader_12 : decode cX1_tableOfReader 12 = .ok (.aload_n 0, 1) := by decide +kernel
theorem dX1_tableOfReader_13 : decode cX1_tableOfReader 13 = .ok (.getfield 20, 3) := by decide +kernel
theorem dX1_tableOfReader_16 : decode cX1_tableOfReader 16 = .ok (.iload_n 1, 1) := by decide +kernel
theorem dX1_tableOfReader_17 : decode cX1_tableOfReader 17 = .ok (.iaload, 1) := by decide +kernel
theorem dX1_tableOfReader_18 : decode cX1_tableOfReader 18 = .ok (.invokevirtual 43, 3) := by decide +kernel
theorem dX1_tableOfReader_21 : decode cX1_tableOfReader 21 = .ok (.areturn, 1) := by decide +kernel
set_option maxRecDepth 20000 in
theorem ggX1_tableOfRevision_J9_floorMod_7cf53 : GoodIn wsX1_tableOfRevision wsJ9_floorMod_7cf53 := goodIn_r _ [5] (by decide +kernel) (by decide +kernel)
set_option maxRecDepth 20000 in
theorem gX1_tableOfRevision_J9_floorMod_7cf53 : GoodIn wsX1_tableOfRevision (va_wsS RX1 85 yJ9_floorMod_7cf53 wsJ9_floorMod_7cf53) := goodIn_app (goodIn_of _ (by decide +kernel)) ggX1_tableOfRevision_J9_floorMod_7cf53
theorem dX1_tableOfRevision_0 : decode cX1_tableOfRevision 0 = .ok (.aload_n 0, 1) := by decide +kernel
theorem dX1_tableOfRevision_1 : decode cX1_tableOfRevision 1 = .ok (.getfield 16, 3) := by decide +kernel
theorem dX1_tableOfRevision_4 : decode cX1_tableOfRevision 4 = .ok (.iload_n 1, 1) := by decide +kernel
theorem dX1_tableOfRevision_5 : decode cX1_tableOfRevision 5 = .ok (.iconst 3, 1) := by decide +kernel
theorem dX1_tableOfRevision_6 : decode cX1_tableOfRevision 6 = .ok (.invokestatic 85, 3) := by decide +kernel
theorem dX1_tableOfRevision_9 : decode cX1_tableOfRevision 9 = .ok (.aaload, 1) := by decide +kernel
theorem dX1_tableOfRevision_10 : decode cX1_tableOfRevision 10 = .ok (.areturn, 1) := by decide +kernel
theorem dX2_init_0 : decode cX2_init 0 = .ok (.aload_n 0, 1) := by decide +kernel
theorem dX2_init_1 : decode cX2_init 1 = .ok (.invokespecial 1, 3) := by decide +kernel
theorem dX2_init_4 : decode cX2_init 4 = .ok (.aload_n 0, 1) := by decide +kernel
theorem dX2_init_5 : decode cX2_init 5 = .ok (.sipush 1600, 3) := by decide +kernel
theorem dX2_init_8 : decode cX2_init 8 = .ok (.newarray .int, 2) := by decide +kernel
theorem dX2_init_10 : decode cX2_init 10 = .ok (.putfield 9, 3) := by decide +kernel
theorem dX2_init_13 : decode cX2_init 13 = .ok (.aload_n 0, 1) := by decide +kernel
theorem dX2_init_14 : decode cX2_init 14 = .ok (.sipush 1600, 3) := by decide +kernel
theorem dX2_init_17 : decode cX2_init 17 = .ok (.newarray .int, 2) := by decide +kernel
theorem dX2_init_19 : decode cX2_init 19 = .ok (.putfield 13, 3) := by decide +kernel
theorem dX2_init_22 : decode cX2_init 22 = .ok (.aload_n 0, 1) := by decide +kernel
theorem dX2_init_23 : decode cX2_init 23 = .ok (.sipush 1600, 3) := by decide +kernel
theorem dX2_init_26 : decode cX2_init 26 = .ok (.newarray .int, 2) := by decide +kernel
theorem dX2_init_28 : decode cX2_init 28 = .ok (.putfield 16, 3) := by decide +kernel
theorem dX2_init_31 : decode cX2_init 31 = .ok (.aload_n 0, 1) := by decide +kernel
theorem dX2_init_32 : decode cX2_init 32 = .ok (.iconst 4, 1) := by decide +kernel
theorem dX2_init_33 : decode cX2_init 33 = .ok (.newarray .int, 2) := by decide +kernel
theorem dX2_init_35 : decode cX2_init 35 = .ok (.putfield 19, 3) := by decide +kernel
theorem dX2_init_38 : decode cX2_init 38 = .ok (.aload_n 0, 1) := by decide +kernel
theorem dX2_init_39 : decode cX2_init 39 = .ok (.iconst 4, 1) := by decide +kernel
theorem dX2_init_40 : decode cX2_init 40 = .ok (.newarray .int, 2) := by decide +kernel
theorem dX2_init_42 : decode cX2_init 42 = .ok (.putfield 22, 3) := by decide +kernel
theorem dX2_init_45 : decode cX2_init 45 = .ok (.return_, 1) := by decide +kernel
theorem dX2_copy_0 : decode cX2_copy 0 = .ok (.iconst 0, 1) := by decide +kernel
theorem dX2_copy_1 : decode cX2_copy 1 = .ok (.istore_n 3, 1) := by decide +kernel
theorem dX2_copy_2 : decode cX2_copy 2 = .ok (.iload_n 3, 1) := by decide +kernel
theorem dX2_copy_3 : decode cX2_copy 3 = .ok (.aload_n 0, 1) := by decide +kernel
theorem dX2_copy_4 : decode cX2_copy 4 = .ok (.getfield 19, 3) := by decide +kernel
theorem dX2_copy_7 : decode cX2_copy 7 = .ok (.iload_n 1, 1) := by decide +kernel
theorem dX2_copy_8 : decode cX2_copy 8 = .ok (.iaload, 1) := by decide +kernel
theorem dX2_copy_9 : decode cX2_copy 9 = .ok (.if_icmp .ge 81, 3) := by decide +kernel
theorem dX2_copy_12 : decode cX2_copy 12 = .ok (.aload_n 0, 1) := by decide +kernel
theorem dX2_copy_13 : decode cX2_copy 13 = .ok (.getfield 9, 3) := by decide +kernel
theorem dX2_copy_16 : decode cX2_copy 16 = .ok (.sipush 400, 3) := by decide +kernel
theorem dX2_copy_19 : decode cX2_copy 19 = .ok (.iload_n 2, 1) := by decide +kernel
theorem dX2_copy_20 : decode cX2_copy 20 = .ok (.imul, 1) := by decide +kernel
theorem dX2_copy_21 : decode cX2_copy 21 = .ok (.iload_n 3, 1) := by decide +kernel
theorem dX2_copy_22 : decode cX2_copy 22 = .ok (.iadd, 1) := by decide +kernel
theorem dX2_copy_23 : decode cX2_copy 23 = .ok (.aload_n 0, 1) := by decide +kernel
theorem dX2_copy_24 : decode cX2_copy 24 = .ok (.getfield 9, 3) := by decide +kernel
theorem dX2_copy_27 : decode cX2_copy 27 = .ok (.sipush 400, 3) := by decide +kernel
theorem dX2_copy_30 : decode cX2_copy 30 = .ok (.iload_n 1, 1) := by decide +kernel
theorem dX2_copy_31 : decode cX2_copy 31 = .ok (.imul, 1) := by decide +kernel
theorem dX2_copy_32 : decode cX2_copy 32 = .ok (.iload_n 3, 1) := by decide +kernel
theorem dX2_copy_33 : decode cX2_copy 33 = .ok (.iadd, 1) := by decide +kernel
theorem dX2_copy_34 : decode cX2_copy 34 = .ok (.iaload, 1) := by decide +kernel
theorem dX2_copy_35 : decode cX2_copy 35 = .ok (.iastore, 1) := by decide +kernel
theorem dX2_copy_36 : decode cX2_copy 36 = .ok (.aload_n 0, 1) := by decide +kernel
theorem dX2_copy_37 : decode cX2_copy 37 = .ok (.getfield 13, 3) := by decide +kernel
theorem dX2_copy_40 : decode cX2_copy 40 = .ok (.sipush 400, 3) := by decide +kernel
theorem dX2_copy_43 : decode cX2_copy 43 = .ok (.iload_n 2, 1) := by decide +kernel
theorem dX2_copy_44 : decode cX2_copy 44 = .ok (.imul, 1) := by decide +kernel
theorem dX2_copy_45 : decode cX2_copy 45 = .ok (.iload_n 3, 1) := by decide +kernel
theorem dX2_copy_46 : decode cX2_copy 46 = .ok (.iadd, 1) := by decide +kernel
theorem dX2_copy_47 : decode cX2_copy 47 = .ok (.aload_n 0, 1) := by decide +kernel
theorem dX2_copy_48 : decode cX2_copy 48 = .ok (.getfield 13, 3) := by decide +kernel
theorem dX2_copy_51 : decode cX2_copy 51 = .ok (.sipush 400, 3) := by decide +kernel
theorem dX2_copy_54 : decode cX2_copy 54 = .ok (.iload_n 1, 1) := by decide +kernel
theorem dX2_copy_55 : decode cX2_copy 55 = .ok (.imul, 1) := by decide +kernel
theorem dX2_copy_56 : decode cX2_copy 56 = .ok (.iload_n 3, 1) := by decide +kernel
theorem dX2_copy_57 : decode cX2_copy 57 = .ok (.iadd, 1) := by decide +kernel
theorem dX2_copy_58 : decode cX2_copy 58 = .ok (.iaload, 1) := by decide +kernel
theorem dX2_copy_59 : decode cX2_copy 59 = .ok (.iastore, 1) := by decide +kernel
theorem dX2_copy_60 : decode cX2_copy 60 = .ok (.aload_n 0, 1) := by decide +kernel
theorem dX2_copy_61 : decode cX2_copy 61 = .ok (.getfield 16, 3) := by decide +kernel
theorem dX2_copy_64 : decode cX2_copy 64 = .ok (.sipush 400, 3) := by decide +kernel
theorem dX2_copy_67 : decode cX2_copy 67 = .ok (.iload_n 2, 1) := by decide +kernel
theorem dX2_copy_68 : decode cX2_copy 68 = .ok (.imul, 1) := by decide +kernel
theorem dX2_copy_69 : decode cX2_copy 69 = .ok (.iload_n 3, 1) := by decide +kernel
theorem dX2_copy_70 : decode cX2_copy 70 = .ok (.iadd, 1) := by decide +kernel
theorem dX2_copy_71 : decode cX2_copy 71 = .ok (.aload_n 0, 1) := by decide +kernel
theorem dX2_copy_72 : decode cX2_copy 72 = .ok (.getfield 16, 3) := by decide +kernel
theorem dX2_copy_75 : decode cX2_copy 75 = .ok (.sipush 400, 3) := by decide +kernel
theorem dX2_copy_78 : decode cX2_copy 78 = .ok (.iload_n 1, 1) := by decide +kernel
theorem dX2_copy_79 : decode cX2_copy 79 = .ok (.imul, 1) := by decide +kernel
theorem dX2_copy_80 : decode cX2_copy 80 = .ok (.iload_n 3, 1) := by decide +kernel
theorem dX2_copy_81 : decode cX2_copy 81 = .ok (.iadd, 1) := by decide +kernel
theorem dX2_copy_82 : decode cX2_copy 82 = .ok (.iaload, 1) := by decide +kernel
theorem dX2_copy_83 : decode cX2_copy 83 = .ok (.iastore, 1) := by decide +kernel
theorem dX2_copy_84 : decode cX2_copy 84 = .ok (.iinc 3 1, 3) := by decide +kernel
theorem dX2_copy_87 : decode cX2_copy 87 = .ok (.goto (-85), 3) := by decide +kernel
theorem dX2_copy_90 : decode cX2_copy 90 = .ok (.aload_n 0, 1) := by decide +kernel
theorem dX2_copy_91 : decode cX2_copy 91 = .ok (.getfield 19, 3) := by decide +kernel
theorem dX2_copy_94 : decode cX2_copy 94 = .ok (.iload_n 2, 1) := by decide +kernel
theorem dX2_copy_95 : decode cX2_copy 95 = .ok (.aload_n 0, 1) := by decide +kernel
theorem dX2_copy_96 : decode cX2_copy 96 = .ok (.getfield 19, 3) := by decide +kernel
theorem dX2_copy_99 : decode cX2_copy 99 = .ok (.iload_n 1, 1) := by decide +kernel
theorem dX2_copy_100 : decode cX2_copy 100 = .ok (.iaload, 1) := by decide +kernel
theorem dX2_copy_101 : decode cX2_copy 101 = .ok (.iastore, 1) := by decide +kernel
theorem dX2_copy_102 : decode cX2_copy 102 = .ok (.return_, 1) := by decide +kernel
theorem dX2_place_0 : decode cX2_place 0 = .ok (.sipush 400, 3) := by decide +kernel
theorem dX2_place_3 : decode cX2_place 3 = .ok (.iload_n 1, 1) := by decide +kernel
theorem dX2_place_4 : decode cX2_place 4 = .ok (.imul, 1) := by decide +kernel
theorem dX2_place_5 : decode cX2_place 5 = .ok (.istore_n 3, 1) := by decide +kernel
theorem dX2_place_6 : decode cX2_place 6 = .ok (.iload_n 3, 1) := by decide +kernel
theorem dX2_place_7 : decode cX2_place 7 = .ok (.sipush 400, 3) := by decide +kernel
theorem dX2_place_10 : decode cX2_place 10 = .ok (.iload_n 1, 1) := by decide +kernel
theorem dX2_place_11 : decode cX2_place 11 = .ok (.imul, 1) := by decide +kernel
theorem dX2_place_12 : decode cX2_place 12 = .ok (.aload_n 0, 1) := by decide +kernel
theorem dX2_place_13 : decode cX2_place 13 = .ok (.getfield 19, 3) := by decide +kernel
theorem dX2_place_16 : decode cX2_place 16 = .ok (.iload_n 1, 1) := by decide +kernel
theorem dX2_place_17 : decode cX2_place 17 = .ok (.iaload, 1) := by decide +kernel
theorem dX2_place_18 : decode cX2_place 18 = .ok (.iadd, 1) := by decide +kernel
theorem dX2_place_19 : decode cX2_place 19 = .ok (.if_icmp .ge 19, 3) := by decide +kernel
theorem dX2_place_22 : decode cX2_place 22 = .ok (.aload_n 0, 1) := by decide +kernel
theorem dX2_place_23 : decode cX2_place 23 = .ok (.getfield 9, 3) := by decide +kernel
theorem dX2_place_26 : decode cX2_place 26 = .ok (.iload_n 3, 1) := by decide +kernel
theorem dX2_place_27 : decode cX2_place 27 = .ok (.iaload, 1) := by decide +kernel
theorem dX2_place_28 : decode cX2_place 28 = .ok (.iload_n 2, 1) := by decide +kernel
theorem dX2_place_29 : decode cX2_place 29 = .ok (.if_icmp .ge 9, 3) := by decide +kernel
theorem dX2_place_32 : decode cX2_place 32 = .ok (.iinc 3 1, 3) := by decide +kernel
theorem dX2_place_35 : decode cX2_place 35 = .ok (.goto (-29), 3) := by decide +kernel
theorem dX2_place_38 : decode cX2_place 38 = .ok (.iload_n 3, 1) := by decide +kernel
theorem dX2_place_39 : decode cX2_place 39 = .ok (.ireturn, 1) := by decide +kernel
theorem dX2_is_0 : decode cX2_is 0 = .ok (.iload_n 2, 1) := by decide +kernel
theorem dX2_is_1 : decode cX2_is 1 = .ok (.sipush 400, 3) := by decide +kernel
theorem dX2_is_4 : decode cX2_is 4 = .ok (.iload_n 1, 1) := by decide +kernel
theorem dX2_is_5 : decode cX2_is 5 = .ok (.imul, 1) := by decide +kernel
theorem dX2_is_6 : decode cX2_is 6 = .ok (.aload_n 0, 1) := by decide +kernel
theorem dX2_is_7 : decode cX2_is 7 = .ok (.getfield 19, 3) := by decide +kernel
theorem dX2_is_10 : decode cX2_is 10 = .ok (.iload_n 1, 1) := by decide +kernel
theorem dX2_is_11 : decode cX2_is 11 = .ok (.iaload, 1) := by decide +kernel
theorem dX2_is_12 : decode cX2_is 12 = .ok (.iadd, 1) := by decide +kernel
theorem dX2_is_13 : decode cX2_is 13 = .ok (.if_icmp .ge 17, 3) := by decide +kernel
theorem dX2_is_16 : decode cX2_is 16 = .ok (.aload_n 0, 1) := by decide +kernel
theorem dX2_is_17 : decode cX2_is 17 = .ok (.getfield 9, 3) := by decide +kernel
theorem dX2_is_20 : decode cX2_is 20 = .ok (.iload_n 2, 1) := by decide +kernel
theorem dX2_is_21 : decode cX2_is 21 = .ok (.iaload, 1) := by decide +kernel
theorem dX2_is_22 : decode cX2_is 22 = .ok (.iload_n 3, 1) := by decide +kernel
theorem dX2_is_23 : decode cX2_is 23 = .ok (.if_icmp .ne 7, 3) := by decide +kernel
theorem dX2_is_26 : decode cX2_is 26 = .ok (.iconst 1, 1) := by decide +kernel
theorem dX2_is_27 : decode cX2_is 27 = .ok (.goto 4, 3) := by decide +kernel
theorem dX2_is_30 : decode cX2_is 30 = .ok (.iconst 0, 1) := by decide +kernel
theorem dX2_is_31 : decode cX2_is 31 = .ok (.ireturn, 1) := by decide +kernel
set_option maxRecDepth 20000 in
theorem ggX2_put_X2_place : GoodIn wsX2_put wsX2_place := goodIn_r _ [9, 1, 2, 14, 15, 16, 17, 18, 19] (by decide +kernel) (by decide +kernel)
set_option maxRecDepth 20000 in
theorem gX2_put_X2_place : GoodIn wsX2_put (wsV RX2 25 RX2 yX2_place wsX2_place) := goodIn_app (goodIn_of _ (by decide +kernel)) ggX2_put_X2_place
set_option maxRecDepth 20000 in
theorem ggX2_put_X2_is : GoodIn wsX2_put wsX2_is := goodIn_r _ [13, 1, 2, 14, 15, 16, 17, 18, 19] (by decide +kernel) (by decide +kernel)
set_option maxRecDepth 20000 in
theorem gX2_put_X2_is : GoodIn wsX2_put (wsV RX2 29 RX2 yX2_is wsX2_is) := goodIn_app (goodIn_of _ (by decide +kernel)) ggX2_put_X2_is
theorem dX2_put_0 : decode cX2_put 0 = .ok (.iload_n 3, 1) := by decide +kernel
theorem dX2_put_1 : decode cX2_put 1 = .ok (.ifCond .lt 10, 3) := by decide +kernel
theorem dX2_put_4 : decode cX2_put 4 = .ok (.iload_n 3, 1) := by decide +kernel
theorem dX2_put_5 : decode cX2_put 5 = .ok (.sipush 300, 3) := by decide +kernel
theorem dX2_put_8 : decode cX2_put 8 = .ok (.if_icmp .le 5, 3) := by decide +kernel
theorem dX2_put_11 : decode cX2_put 11 = .ok (.iconst (-1), 1) := by decide +kernel
theorem dX2_put_12 : decode cX2_put 12 = .ok (.ireturn, 1) := by decide +kernel
theorem dX2_put_13 : decode cX2_put 13 = .ok (.aload_n 0, 1) := by decide +kernel
theorem dX2_put_14 : decode cX2_put 14 = .ok (.iconst 3, 1) := by decide +kernel
theorem dX2_put_15 : decode cX2_put 15 = .ok (.iload_n 1, 1) := by decide +kernel
theorem dX2_put_16 : decode cX2_put 16 = .ok (.invokevirtual 25, 3) := by decide +kernel
theorem dX2_put_19 : decode cX2_put 19 = .ok (.istore 4, 2) := by decide +kernel
theorem dX2_put_21 : decode cX2_put 21 = .ok (.aload_n 0, 1) := by decide +kernel
theorem dX2_put_22 : decode cX2_put 22 = .ok (.iconst 3, 1) := by decide +kernel
theorem dX2_put_23 : decode cX2_put 23 = .ok (.iload 4, 2) := by decide +kernel
theorem dX2_put_25 : decode cX2_put 25 = .ok (.iload_n 1, 1) := by decide +kernel
theorem dX2_put_26 : decode cX2_put 26 = .ok (.invokevirtual 29, 3) := by decide +kernel
theorem dX2_put_29 : decode cX2_put 29 = .ok (.istore 5, 2) := by decide +kernel
theorem dX2_put_31 : decode cX2_put 31 = .ok (.iload 5, 2) := by decide +kernel
theorem dX2_put_33 : decode cX2_put 33 = .ok (.ifCond .ne 18, 3) := by decide +kernel
theorem dX2_put_36 : decode cX2_put 36 = .ok (.aload_n 0, 1) := by decide +kernel
theorem dX2_put_37 : decode cX2_put 37 = .ok (.getfield 19, 3) := by decide +kernel
theorem dX2_put_40 : decode cX2_put 40 = .ok (.iconst 3, 1) := by decide +kernel
theorem dX2_put_41 : decode cX2_put 41 = .ok (.iaload, 1) := by decide +kernel
theorem dX2_put_42 : decode cX2_put 42 = .ok (.sipush 400, 3) := by decide +kernel
theorem dX2_put_45 : decode cX2_put 45 = .ok (.if_icmp .ne 6, 3) := by decide +kernel
theorem dX2_put_48 : decode cX2_put 48 = .ok (.bipush (-3), 2) := by decide +kernel
theorem dX2_put_50 : decode cX2_put 50 = .ok (.ireturn, 1) := by decide +kernel
theorem dX2_put_51 : decode cX2_put 51 = .ok (.iload 5, 2) := by decide +kernel
theorem dX2_put_53 : decode cX2_put 53 = .ok (.ifCond .ne 86, 3) := by decide +kernel
theorem dX2_put_56 : decode cX2_put 56 = .ok (.sipush 1200, 3) := by decide +kernel
theorem dX2_put_59 : decode cX2_put 59 = .ok (.aload_n 0, 1) := by decide +kernel
theorem dX2_put_60 : decode cX2_put 60 = .ok (.getfield 19, 3) := by decide +kernel
theorem dX2_put_63 : decode cX2_put 63 = .ok (.iconst 3, 1) := by decide +kernel
theorem dX2_put_64 : decode cX2_put 64 = .ok (.iaload, 1) := by decide +kernel
theorem dX2_put_65 : decode cX2_put 65 = .ok (.iadd, 1) := by decide +kernel
theorem dX2_put_66 : decode cX2_put 66 = .ok (.istore 6, 2) := by decide +kernel
theorem dX2_put_68 : decode cX2_put 68 = .ok (.iload 6, 2) := by decide +kernel
theorem dX2_put_70 : decode cX2_put 70 = .ok (.iload 4, 2) := by decide +kernel
theorem dX2_put_72 : decode cX2_put 72 = .ok (.if_icmp .le 57, 3) := by decide +kernel
theorem dX2_put_75 : decode cX2_put 75 = .ok (.aload_n 0, 1) := by decide +kernel
theorem dX2_put_76 : decode cX2_put 76 = .ok (.getfield 9, 3) := by decide +kernel
theorem dX2_put_79 : decode cX2_put 79 = .ok (.iload 6, 2) := by decide +kernel
theorem dX2_put_81 : decode cX2_put 81 = .ok (.aload_n 0, 1) := by decide +kernel
theorem dX2_put_82 : decode cX2_put 82 = .ok (.getfield 9, 3) := by decide +kernel
theorem dX2_put_85 : decode cX2_put 85 = .ok (.iload 6, 2) := by decide +kernel
theorem dX2_put_87 : decode cX2_put 87 = .ok (.iconst 1, 1) := by decide +kernel
theorem dX2_put_88 : decode cX2_put 88 = .ok (.isub, 1) := by decide +kernel
theorem dX2_put_89 : decode cX2_put 89 = .ok (.iaload, 1) := by decide +kernel
theorem dX2_put_90 : decode cX2_put 90 = .ok (.iastore, 1) := by decide +kernel
theorem dX2_put_91 : decode cX2_put 91 = .ok (.aload_n 0, 1) := by decide +kernel
theorem dX2_put_92 : decode cX2_put 92 = .ok (.getfield 13, 3) := by decide +kernel
theorem dX2_put_95 : decode cX2_put 95 = .ok (.iload 6, 2) := by decide +kernel
theorem dX2_put_97 : decode cX2_put 97 = .ok (.aload_n 0, 1) := by decide +kernel
theorem dX2_put_98 : decode cX2_put 98 = .ok (.getfield 13, 3) := by decide +kernel
theorem dX2_put_101 : decode cX2_put 101 = .ok (.iload 6, 2) := by decide +kernel
theorem dX2_put_103 : decode cX2_put 103 = .ok (.iconst 1, 1) := by decide +kernel
theorem dX2_put_104 : decode cX2_put 104 = .ok (.isub, 1) := by decide +kernel
theorem dX2_put_105 : decode cX2_put 105 = .ok (.iaload, 1) := by decide +kernel
theorem dX2_put_106 : decode cX2_put 106 = .ok (.iastore, 1) := by decide +kernel
theorem dX2_put_107 : decode cX2_put 107 = .ok (.aload_n 0, 1) := by decide +kernel
theorem dX2_put_108 : decode cX2_put 108 = .ok (.getfield 16, 3) := by decide +kernel
theorem dX2_put_111 : decode cX2_put 111 = .ok (.iload 6, 2) := by decide +kernel
theorem dX2_put_113 : decode cX2_put 113 = .ok (.aload_n 0, 1) := by decide +kernel
theorem dX2_put_114 : decode cX2_put 114 = .ok (.getfield 16, 3) := by decide +kernel
theorem dX2_put_117 : decode cX2_put 117 = .ok (.iload 6, 2) := by decide +kernel
theorem dX2_put_119 : decode cX2_put 119 = .ok (.iconst 1, 1) := by decide +kernel
theorem dX2_put_120 : decode cX2_put 120 = .ok (.isub, 1) := by decide +kernel
theorem dX2_put_121 : decode cX2_put 121 = .ok (.iaload, 1) := by decide +kernel
theorem dX2_put_122 : decode cX2_put 122 = .ok (.iastore, 1) := by decide +kernel
theorem dX2_put_123 : decode cX2_put 123 = .ok (.iinc 6 (-1), 3) := by decide +kernel
theorem dX2_put_126 : decode cX2_put 126 = .ok (.goto (-58), 3) := by decide +kernel
theorem dX2_put_129 : decode cX2_put 129 = .ok (.aload_n 0, 1) := by decide +kernel
theorem dX2_put_130 : decode cX2_put 130 = .ok (.getfield 19, 3) := by decide +kernel
theorem dX2_put_133 : decode cX2_put 133 = .ok (.iconst 3, 1) := by decide +kernel
theorem dX2_put_134 : decode cX2_put 134 = .ok (.dup2, 1) := by decide +kernel
theorem dX2_put_135 : decode cX2_put 135 = .ok (.iaload, 1) := by decide +kernel
theorem dX2_put_136 : decode cX2_put 136 = .ok (.iconst 1, 1) := by decide +kernel
theorem dX2_put_137 : decode cX2_put 137 = .ok (.iadd, 1) := by decide +kernel
theorem dX2_put_138 : decode cX2_put 138 = .ok (.iastore, 1) := by decide +kernel
theorem dX2_put_139 : decode cX2_put 139 = .ok (.aload_n 0, 1) := by decide +kernel
theorem dX2_put_140 : decode cX2_put 140 = .ok (.getfield 9, 3) := by decide +kernel
theorem dX2_put_143 : decode cX2_put 143 = .ok (.iload 4, 2) := by decide +kernel
theorem dX2_put_145 : decode cX2_put 145 = .ok (.iload_n 1, 1) := by decide +kernel
theorem dX2_put_146 : decode cX2_put 146 = .ok (.iastore, 1) := by decide +kernel
theorem dX2_put_147 : decode cX2_put 147 = .ok (.aload_n 0, 1) := by decide +kernel
theorem dX2_put_148 : decode cX2_put 148 = .ok (.getfield 13, 3) := by decide +kernel
theorem dX2_put_151 : decode cX2_put 151 = .ok (.iload 4, 2) := by decide +kernel
theorem dX2_put_153 : decode cX2_put 153 = .ok (.iload_n 2, 1) := by decide +kernel
theorem dX2_put_154 : decode cX2_put 154 = .ok (.iastore, 1) := by decide +kernel
theorem dX2_put_155 : decode cX2_put 155 = .ok (.aload_n 0, 1) := by decide +kernel
theorem dX2_put_156 : decode cX2_put 156 = .ok (.getfield 16, 3) := by decide +kernel
theorem dX2_put_159 : decode cX2_put 159 = .ok (.iload 4, 2) := by decide +kernel
theorem dX2_put_161 : decode cX2_put 161 = .ok (.iload_n 3, 1) := by decide +kernel
theorem dX2_put_162 : decode cX2_put 162 = .ok (.iastore, 1) := by decide +kernel
theorem dX2_put_163 : decode cX2_put 163 = .ok (.iload 5, 2) := by decide +kernel
theorem dX2_put_165 : decode cX2_put 165 = .ok (.ifCond .eq 7, 3) := by decide +kernel
theorem dX2_put_168 : decode cX2_put 168 = .ok (.iconst 0, 1) := by decide +kernel
theorem dX2_put_169 : decode cX2_put 169 = .ok (.goto 4, 3) := by decide +kernel
theorem dX2_put_172 : decode cX2_put 172 = .ok (.iconst 1, 1) := by decide +kernel
theorem dX2_put_173 : decode cX2_put 173 = .ok (.ireturn, 1) := by decide +kernel
set_option maxRecDepth 20000 in
theorem ggX2_some_X2_put : GoodIn wsX2_some wsX2_put := goodIn_r _ [5, 6, 7, 8, 9, 10, 11, 12, 4, 13, 14, 15, 16, 17, 18, 19, 20, 21, 22, 23] (by decide +kernel) (by decide +kernel)
set_option maxRecDepth 20000 in
theorem gX2_some_X2_put : GoodIn wsX2_some (wsV RX2 33 RX2 yX2_put wsX2_put) := goodIn_app (goodIn_of _ (by decide +kernel)) ggX2_some_X2_put
theorem dX2_some_0 : decode cX2_some 0 = .ok (.iload_n 3, 1) := by decide +kernel
theorem dX2_some_1 : decode cX2_some 1 = .ok (.iconst 1, 1) := by decide +kernel
theorem dX2_some_2 : decode cX2_some 2 = .ok (.if_icmp .lt 9, 3) := by decide +kernel
theorem dX2_some_5 : decode cX2_some 5 = .ok (.iload_n 3, 1) := by decide +kernel
theorem dX2_some_6 : decode cX2_some 6 = .ok (.bipush 60, 2) := by decide +kernel
theorem dX2_some_8 : decode cX2_some 8 = .ok (.if_icmp .le 5, 3) := by decide +kernel
theorem dX2_some_11 : decode cX2_some 11 = .ok (.iconst (-1), 1) := by decide +kernel
theorem dX2_some_12 : decode cX2_some 12 = .ok (.ireturn, 1) := by decide +kernel
theorem dX2_some_13 : decode cX2_some 13 = .ok (.iconst 0, 1) := by decide +kernel
theorem dX2_some_14 : decode cX2_some 14 = .ok (.istore 5, 2) := by decide +kernel
theorem dX2_some_16 : decode cX2_some 16 = .ok (.iconst 0, 1) := by decide +kernel
theorem dX2_some_17 : decode cX2_some 17 = .ok (.istore 6, 2) := by decide +kernel
theorem dX2_some_19 : decode cX2_some 19 = .ok (.iload 6, 2) := by decide +kernel
theorem dX2_some_21 : decode cX2_some 21 = .ok (.iload_n 3, 1) := by decide +kernel
theorem dX2_some_22 : decode cX2_some 22 = .ok (.if_icmp .ge 53, 3) := by decide +kernel
theorem dX2_some_25 : decode cX2_some 25 = .ok (.aload_n 0, 1) := by decide +kernel
theorem dX2_some_26 : decode cX2_some 26 = .ok (.iload_n 1, 1) := by decide +kernel
theorem dX2_some_27 : decode cX2_some 27 = .ok (.iload 6, 2) := by decide +kernel
theorem dX2_some_29 : decode cX2_some 29 = .ok (.iload_n 2, 1) := by decide +kernel
theorem dX2_some_30 : decode cX2_some 30 = .ok (.imul, 1) := by decide +kernel
theorem dX2_some_31 : decode cX2_some 31 = .ok (.iadd, 1) := by decide +kernel
theorem dX2_some_32 : decode cX2_some 32 = .ok (.iload 4, 2) := by decide +kernel
theorem dX2_some_34 : decode cX2_some 34 = .ok (.iload 6, 2) := by decide +kernel
theorem dX2_some_36 : decode cX2_some 36 = .ok (.iadd, 1) := by decide +kernel
theorem dX2_some_37 : decode cX2_some 37 = .ok (.iload 6, 2) := by decide +kernel
theorem dX2_some_39 : decode cX2_some 39 = .ok (.iconst 2, 1) := by decide +kernel
theorem dX2_some_40 : decode cX2_some 40 = .ok (.irem, 1) := by decide +kernel
theorem dX2_some_41 : decode cX2_some 41 = .ok (.ifCond .ne 7, 3) := by decide +kernel
theorem dX2_some_44 : decode cX2_some 44 = .ok (.iconst 0, 1) := by decide +kernel
theorem dX2_some_45 : decode cX2_some 45 = .ok (.goto 14, 3) := by decide +kernel
theorem dX2_some_48 : decode cX2_some 48 = .ok (.iload 4, 2) := by decide +kernel
theorem dX2_some_50 : decode cX2_some 50 = .ok (.bipush 7, 2) := by decide +kernel
theorem dX2_some_52 : decode cX2_some 52 = .ok (.iload 6, 2) := by decide +kernel
theorem dX2_some_54 : decode cX2_some 54 = .ok (.imul, 1) := by decide +kernel
theorem dX2_some_55 : decode cX2_some 55 = .ok (.iadd, 1) := by decide +kernel
theorem dX2_some_56 : decode cX2_some 56 = .ok (.bipush 127, 2) := by decide +kernel
theorem dX2_some_58 : decode cX2_some 58 = .ok (.iand, 1) := by decide +kernel
theorem dX2_some_59 : decode cX2_some 59 = .ok (.invokevirtual 33, 3) := by decide +kernel
theorem dX2_some_62 : decode cX2_some 62 = .ok (.iconst 1, 1) := by decide +kernel
theorem dX2_some_63 : decode cX2_some 63 = .ok (.if_icmp .ne 6, 3) := by decide +kernel
theorem dX2_some_66 : decode cX2_some 66 = .ok (.iinc 5 1, 3) := by decide +kernel
theorem dX2_some_69 : decode cX2_some 69 = .ok (.iinc 6 1, 3) := by decide +kernel
theorem dX2_some_72 : decode cX2_some 72 = .ok (.goto (-53), 3) := by decide +kernel
theorem dX2_some_75 : decode cX2_some 75 = .ok (.iload 5, 2) := by decide +kernel
theorem dX2_some_77 : decode cX2_some 77 = .ok (.ireturn, 1) := by decide +kernel
set_option maxRecDepth 20000 in
theorem ggX2_remove_X2_place : GoodIn wsX2_remove wsX2_place := goodIn_r _ [9, 1, 2, 14, 15, 16, 17, 18, 19] (by decide +kernel) (by decide +kernel)
set_option maxRecDepth 20000 in
theorem gX2_remove_X2_place : GoodIn wsX2_remove (wsV RX2 25 RX2 yX2_place wsX2_place) := goodIn_app (goodIn_of _ (by decide +kernel)) ggX2_remove_X2_place
set_option maxRecDepth 20000 in
theorem ggX2_remove_X2_is : GoodIn wsX2_remove wsX2_is := goodIn_r _ [13, 1, 2, 14, 15, 16, 17, 18, 19] (by decide +kernel) (by decide +kernel)
set_option maxRecDepth 20000 in
theorem gX2_remove_X2_is : GoodIn wsX2_remove (wsV RX2 29 RX2 yX2_is wsX2_is) := goodIn_app (goodIn_of _ (by decide +kernel)) ggX2_remove_X2_is
theorem dX2_remove_0 : decode cX2_remove 0 = .ok (.aload_n 0, 1) := by decide +kernel
theorem dX2_remove_1 : decode cX2_remove 1 = .ok (.iconst 3, 1) := by decide +kernel
theorem dX2_remove_2 : decode cX2_remove 2 = .ok (.iload_n 1, 1) := by decide +kernel
theorem dX2_remove_3 : decode cX2_remove 3 = .ok (.invokevirtual 25, 3) := by decide +kernel
theorem dX2_remove_6 : decode cX2_remove 6 = .ok (.istore_n 2, 1) := by decide +kernel
theorem dX2_remove_7 : decode cX2_remove 7 = .ok (.aload_n 0, 1) := by decide +kernel
theorem dX2_remove_8 : decode cX2_remove 8 = .ok (.iconst 3, 1) := by decide +kernel
theorem dX2_remove_9 : decode cX2_remove 9 = .ok (.iload_n 2, 1) := by decide +kernel
theorem dX2_remove_10 : decode cX2_remove 10 = .ok (.iload_n 1, 1) := by decide +kernel
theorem dX2_remove_11 : decode cX2_remove 11 = .ok (.invokevirtual 29, 3) := by decide +kernel
theorem dX2_remove_14 : decode cX2_remove 14 = .ok (.ifCond .ne 6, 3) := by decide +kernel
theorem dX2_remove_17 : decode cX2_remove 17 = .ok (.bipush (-2), 2) := by decide +kernel
theorem dX2_remove_19 : decode cX2_remove 19 = .ok (.ireturn, 1) := by decide +kernel
theorem dX2_remove_20 : decode cX2_remove 20 = .ok (.aload_n 0, 1) := by decide +kernel
theorem dX2_remove_21 : decode cX2_remove 21 = .ok (.getfield 19, 3) := by decide +kernel
theorem dX2_remove_24 : decode cX2_remove 24 = .ok (.iconst 3, 1) := by decide +kernel
theorem dX2_remove_25 : decode cX2_remove 25 = .ok (.dup2, 1) := by decide +kernel
theorem dX2_remove_26 : decode cX2_remove 26 = .ok (.iaload, 1) := by decide +kernel
theorem dX2_remove_27 : decode cX2_remove 27 = .ok (.iconst 1, 1) := by decide +kernel
theorem dX2_remove_28 : decode cX2_remove 28 = .ok (.isub, 1) := by decide +kernel
theorem dX2_remove_29 : decode cX2_remove 29 = .ok (.iastore, 1) := by decide +kernel
theorem dX2_remove_30 : decode cX2_remove 30 = .ok (.iload_n 2, 1) := by decide +kernel
theorem dX2_remove_31 : decode cX2_remove 31 = .ok (.istore_n 3, 1) := by decide +kernel
theorem dX2_remove_32 : decode cX2_remove 32 = .ok (.iload_n 3, 1) := by decide +kernel
theorem dX2_remove_33 : decode cX2_remove 33 = .ok (.sipush 1200, 3) := by decide +kernel
theorem dX2_remove_36 : decode cX2_remove 36 = .ok (.aload_n 0, 1) := by decide +kernel
theorem dX2_remove_37 : decode cX2_remove 37 = .ok (.getfield 19, 3) := by decide +kernel
theorem dX2_remove_40 : decode cX2_remove 40 = .ok (.iconst 3, 1) := by decide +kernel
theorem dX2_remove_41 : decode cX2_remove 41 = .ok (.iaload, 1) := by decide +kernel
theorem dX2_remove_42 : decode cX2_remove 42 = .ok (.iadd, 1) := by decide +kernel
theorem dX2_remove_43 : decode cX2_remove 43 = .ok (.if_icmp .ge 51, 3) := by decide +kernel
theorem dX2_remove_46 : decode cX2_remove 46 = .ok (.aload_n 0, 1) := by decide +kernel
theorem dX2_remove_47 : decode cX2_remove 47 = .ok (.getfield 9, 3) := by decide +kernel
theorem dX2_remove_50 : decode cX2_remove 50 = .ok (.iload_n 3, 1) := by decide +kernel
theorem dX2_remove_51 : decode cX2_remove 51 = .ok (.aload_n 0, 1) := by decide +kernel
theorem dX2_remove_52 : decode cX2_remove 52 = .ok (.getfield 9, 3) := by decide +kernel
theorem dX2_remove_55 : decode cX2_remove 55 = .ok (.iload_n 3, 1) := by decide +kernel
theorem dX2_remove_56 : decode cX2_remove 56 = .ok (.iconst 1, 1) := by decide +kernel
theorem dX2_remove_57 : decode cX2_remove 57 = .ok (.iadd, 1) := by decide +kernel
theorem dX2_remove_58 : decode cX2_remove 58 = .ok (.iaload, 1) := by decide +kernel
theorem dX2_remove_59 : decode cX2_remove 59 = .ok (.iastore, 1) := by decide +kernel
theorem dX2_remove_60 : decode cX2_remove 60 = .ok (.aload_n 0, 1) := by decide +kernel
theorem dX2_remove_61 : decode cX2_remove 61 = .ok (.getfield 13, 3) := by decide +kernel
theorem dX2_remove_64 : decode cX2_remove 64 = .ok (.iload_n 3, 1) := by decide +kernel
theorem dX2_remove_65 : decode cX2_remove 65 = .ok (.aload_n 0, 1) := by decide +kernel
theorem dX2_remove_66 : decode cX2_remove 66 = .ok (.getfield 13, 3) := by decide +kernel
theorem dX2_remove_69 : decode cX2_remove 69 = .ok (.iload_n 3, 1) := by decide +kernel
theorem dX2_remove_70 : decode cX2_remove 70 = .ok (.iconst 1, 1) := by decide +kernel
theorem dX2_remove_71 : decode cX2_remove 71 = .ok (.iadd, 1) := by decide +kernel
theorem dX2_remove_72 : decode cX2_remove 72 = .ok (.iaload, 1) := by decide +kernel
theorem dX2_remove_73 : decode cX2_remove 73 = .ok (.iastore, 1) := by decide +kernel
theorem dX2_remove_74 : decode cX2_remove 74 = .ok (.aload_n 0, 1) := by decide +kernel
theorem dX2_remove_75 : decode cX2_remove 75 = .ok (.getfield 16, 3) := by decide +kernel
theorem dX2_remove_78 : decode cX2_remove 78 = .ok (.iload_n 3, 1) := by decide +kernel
theorem dX2_remove_79 : decode cX2_remove 79 = .ok (.aload_n 0, 1) := by decide +kernel
theorem dX2_remove_80 : decode cX2_remove 80 = .ok (.getfield 16, 3) := by decide +kernel
theorem dX2_remove_83 : decode cX2_remove 83 = .ok (.iload_n 3, 1) := by decide +kernel
theorem dX2_remove_84 : decode cX2_remove 84 = .ok (.iconst 1, 1) := by decide +kernel
theorem dX2_remove_85 : decode cX2_remove 85 = .ok (.iadd, 1) := by decide +kernel
theorem dX2_remove_86 : decode cX2_remove 86 = .ok (.iaload, 1) := by decide +kernel
theorem dX2_remove_87 : decode cX2_remove 87 = .ok (.iastore, 1) := by decide +kernel
theorem dX2_remove_88 : decode cX2_remove 88 = .ok (.iinc 3 1, 3) := by decide +kernel
theorem dX2_remove_91 : decode cX2_remove 91 = .ok (.goto (-59), 3) := by decide +kernel
theorem dX2_remove_94 : decode cX2_remove 94 = .ok (.aload_n 0, 1) := by decide +kernel
theorem dX2_remove_95 : decode cX2_remove 95 = .ok (.getfield 19, 3) := by decide +kernel
theorem dX2_remove_98 : decode cX2_remove 98 = .ok (.iconst 3, 1) := by decide +kernel
theorem dX2_remove_99 : decode cX2_remove 99 = .ok (.iaload, 1) := by decide +kernel
theorem dX2_remove_100 : decode cX2_remove 100 = .ok (.ireturn, 1) := by decide +kernel
set_option maxRecDepth 20000 in
theorem ggX2_commit_X2_copy : GoodIn wsX2_commit wsX2_copy := goodIn_r _ [6, 7, 8, 9, 10, 11, 12, 13, 14, 15, 16] (by decide +kernel) (by decide +kernel)
set_option maxRecDepth 20000 in
theorem gX2_commit_X2_copy : GoodIn wsX2_commit (wsV RX2 41 RX2 yX2_copy wsX2_copy) := goodIn_app (goodIn_of _ (by decide +kernel)) ggX2_commit_X2_copy
theorem dX2_commit_0 : decode cX2_commit 0 = .ok (.iload_n 1, 1) := by decide +kernel
theorem dX2_commit_1 : decode cX2_commit 1 = .ok (.ifCond .lt 17, 3) := by decide +kernel
theorem dX2_commit_4 : decode cX2_commit 4 = .ok (.aload_n 0, 1) := by decide +kernel
theorem dX2_commit_5 : decode cX2_commit 5 = .ok (.aload_n 0, 1) := by decide +kernel
theorem dX2_commit_6 : decode cX2_commit 6 = .ok (.getfield 37, 3) := by decide +kernel
theorem dX2_commit_9 : decode cX2_commit 9 = .ok (.iconst 3, 1) := by decide +kernel
theorem dX2_commit_10 : decode cX2_commit 10 = .ok (.irem, 1) := by decide +kernel
theorem dX2_commit_11 : decode cX2_commit 11 = .ok (.iconst 3, 1) := by decide +kernel
theorem dX2_commit_12 : decode cX2_commit 12 = .ok (.invokevirtual 41, 3) := by decide +kernel
theorem dX2_commit_15 : decode cX2_commit 15 = .ok (.bipush (-5), 2) := by decide +kernel
theorem dX2_commit_17 : decode cX2_commit 17 = .ok (.ireturn, 1) := by decide +kernel
theorem dX2_commit_18 : decode cX2_commit 18 = .ok (.aload_n 0, 1) := by decide +kernel
theorem dX2_commit_19 : decode cX2_commit 19 = .ok (.dup, 1) := by decide +kernel
theorem dX2_commit_20 : decode cX2_commit 20 = .ok (.getfield 37, 3) := by decide +kernel
theorem dX2_commit_23 : decode cX2_commit 23 = .ok (.iconst 1, 1) := by decide +kernel
theorem dX2_commit_24 : decode cX2_commit 24 = .ok (.iadd, 1) := by decide +kernel
theorem dX2_commit_25 : decode cX2_commit 25 = .ok (.putfield 37, 3) := by decide +kernel
theorem dX2_commit_28 : decode cX2_commit 28 = .ok (.aload_n 0, 1) := by decide +kernel
theorem dX2_commit_29 : decode cX2_commit 29 = .ok (.iconst 3, 1) := by decide +kernel
theorem dX2_commit_30 : decode cX2_commit 30 = .ok (.aload_n 0, 1) := by decide +kernel
theorem dX2_commit_31 : decode cX2_commit 31 = .ok (.getfield 37, 3) := by decide +kernel
theorem dX2_commit_34 : decode cX2_commit 34 = .ok (.iconst 3, 1) := by decide +kernel
theorem dX2_commit_35 : decode cX2_commit 35 = .ok (.irem, 1) := by decide +kernel
theorem dX2_commit_36 : decode cX2_commit 36 = .ok (.invokevirtual 41, 3) := by decide +kernel
theorem dX2_commit_39 : decode cX2_commit 39 = .ok (.aload_n 0, 1) := by decide +kernel
theorem dX2_commit_40 : decode cX2_commit 40 = .ok (.getfield 37, 3) := by decide +kernel
theorem dX2_commit_43 : decode cX2_commit 43 = .ok (.ireturn, 1) := by decide +kernel
set_option maxRecDepth 20000 in
theorem ggX2_forget_X2_copy : GoodIn wsX2_forget wsX2_copy := goodIn_r _ [7, 2, 8, 9, 10, 11, 12, 13, 14, 15, 16] (by decide +kernel) (by decide +kernel)
set_option maxRecDepth 20000 in
theorem gX2_forget_X2_copy : GoodIn wsX2_forget (wsV RX2 41 RX2 yX2_copy wsX2_copy) := goodIn_app (goodIn_of _ (by decide +kernel)) ggX2_forget_X2_copy
theorem dX2_forget_0 : decode cX2_forget 0 = .ok (.aload_n 0, 1) := by decide +kernel
theorem dX2_forget_1 : decode cX2_forget 1 = .ok (.aload_n 0, 1) := by decide +kernel
theorem dX2_forget_2 : decode cX2_forget 2 = .ok (.getfield 37, 3) := by decide +kernel
theorem dX2_forget_5 : decode cX2_forget 5 = .ok (.iconst 3, 1) := by decide +kernel
theorem dX2_forget_6 : decode cX2_forget 6 = .ok (.irem, 1) := by decide +kernel
theorem dX2_forget_7 : decode cX2_forget 7 = .ok (.iconst 3, 1) := by decide +kernel
theorem dX2_forget_8 : decode cX2_forget 8 = .ok (.invokevirtual 41, 3) := by decide +kernel
theorem dX2_forget_11 : decode cX2_forget 11 = .ok (.aload_n 0, 1) := by decide +kernel
theorem dX2_forget_12 : decode cX2_forget 12 = .ok (.getfield 19, 3) := by decide +kernel
theorem dX2_forget_15 : decode cX2_forget 15 = .ok (.iconst 3, 1) := by decide +kernel
theorem dX2_forget_16 : decode cX2_forget 16 = .ok (.iaload, 1) := by decide +kernel
theorem dX2_forget_17 : decode cX2_forget 17 = .ok (.ireturn, 1) := by decide +kernel
theorem dX2_open_0 : decode cX2_open 0 = .ok (.iload_n 1, 1) := by decide +kernel
theorem dX2_open_1 : decode cX2_open 1 = .ok (.ifCond .lt 8, 3) := by decide +kernel
theorem dX2_open_4 : decode cX2_open 4 = .ok (.iload_n 1, 1) := by decide +kernel
theorem dX2_open_5 : decode cX2_open 5 = .ok (.iconst 3, 1) := by decide +kernel
theorem dX2_open_6 : decode cX2_open 6 = .ok (.if_icmp .le 5, 3) := by decide +kernel
theorem dX2_open_9 : decode cX2_open 9 = .ok (.iconst (-1), 1) := by decide +kernel
theorem dX2_open_10 : decode cX2_open 10 = .ok (.ireturn, 1) := by decide +kernel
theorem dX2_open_11 : decode cX2_open 11 = .ok (.aload_n 0, 1) := by decide +kernel
theorem dX2_open_12 : decode cX2_open 12 = .ok (.getfield 22, 3) := by decide +kernel
theorem dX2_open_15 : decode cX2_open 15 = .ok (.iload_n 1, 1) := by decide +kernel
theorem dX2_open_16 : decode cX2_open 16 = .ok (.aload_n 0, 1) := by decide +kernel
theorem dX2_open_17 : decode cX2_open 17 = .ok (.getfield 37, 3) := by decide +kernel
theorem dX2_open_20 : decode cX2_open 20 = .ok (.iastore, 1) := by decide +kernel
theorem dX2_open_21 : decode cX2_open 21 = .ok (.aload_n 0, 1) := by decide +kernel
theorem dX2_open_22 : decode cX2_open 22 = .ok (.getfield 37, 3) := by decide +kernel
theorem dX2_open_25 : decode cX2_open 25 = .ok (.ireturn, 1) := by decide +kernel
theorem dX2_table_0 : decode cX2_table 0 = .ok (.iload_n 1, 1) := by decide +kernel
theorem dX2_table_1 : decode cX2_table 1 = .ok (.iconst (-1), 1) := by decide +kernel
theorem dX2_table_2 : decode cX2_table 2 = .ok (.if_icmp .lt 8, 3) := by decide +kernel
theorem dX2_table_5 : decode cX2_table 5 = .ok (.iload_n 1, 1) := by decide +kernel
theorem dX2_table_6 : decode cX2_table 6 = .ok (.iconst 3, 1) := by decide +kernel
theorem dX2_table_7 : decode cX2_table 7 = .ok (.if_icmp .le 5, 3) := by decide +kernel
theorem dX2_table_10 : decode cX2_table 10 = .ok (.iconst (-1), 1) := by decide +kernel
theorem dX2_table_11 : decode cX2_table 11 = .ok (.ireturn, 1) := by decide +kernel
theorem dX2_table_12 : decode cX2_table 12 = .ok (.iload_n 1, 1) := by decide +kernel
theorem dX2_table_13 : decode cX2_table 13 = .ok (.ifCond .ge 5, 3) := by decide +kernel
theorem dX2_table_16 : decode cX2_table 16 = .ok (.iconst 3, 1) := by decide +kernel
theorem dX2_table_17 : decode cX2_table 17 = .ok (.ireturn, 1) := by decide +kernel
theorem dX2_table_18 : decode cX2_table 18 = .ok (.aload_n 0, 1) := by decide +kernel
theorem dX2_table_19 : decode cX2_table 19 = .ok (.getfield 22, 3) := by decide +kernel
theorem dX2_table_22 : decode cX2_table 22 = .ok (.iload_n 1, 1) := by decide +kernel
theorem dX2_table_23 : decode cX2_table 23 = .ok (.iaload, 1) := by decide +kernel
theorem dX2_table_24 : decode cX2_table 24 = .ok (.aload_n 0, 1) := by decide +kernel
theorem dX2_table_25 : decode cX2_table 25 = .ok (.getfield 37, 3) := by decide +kernel
theorem dX2_table_28 : decode cX2_table 28 = .ok (.iconst 2, 1) := by decide +kernel
theorem dX2_table_29 : decode cX2_table 29 = .ok (.isub, 1) := by decide +kernel
theorem dX2_table_30 : decode cX2_table 30 = .ok (.if_icmp .ge 8, 3) := by decide +kernel
theorem dX2_table_33 : decode cX2_table 33 = .ok (.bipush (-4), 2) := by decide +kernel
theorem dX2_table_35 : decode cX2_table 35 = .ok (.goto 11, 3) := by decide +kernel
theorem dX2_table_38 : decode cX2_table 38 = .ok (.aload_n 0, 1) := by decide +kernel
theorem dX2_table_39 : decode cX2_table 39 = .ok (.getfield 22, 3) := by decide +kernel
theorem dX2_table_42 : decode cX2_table 42 = .ok (.iload_n 1, 1) := by decide +kernel
theorem dX2_table_43 : decode cX2_table 43 = .ok (.iaload, 1) := by decide +kernel
theorem dX2_table_44 : decode cX2_table 44 = .ok (.iconst 3, 1) := by decide +kernel
theorem dX2_table_45 : decode cX2_table 45 = .ok (.irem, 1) := by decide +kernel
theorem dX2_table_46 : decode cX2_table 46 = .ok (.ireturn, 1) := by decide +kernel
set_option maxRecDepth 20000 in
theorem ggX2_get_X2_table : GoodIn wsX2_get wsX2_table := goodIn_r _ [8, 9, 10, 21, 22, 23, 24, 25, 26] (by decide +kernel) (by decide +kernel)
set_option maxRecDepth 20000 in
theorem gX2_get_X2_table : GoodIn wsX2_get (wsV RX2 45 RX2 yX2_table wsX2_table) := goodIn_app (goodIn_of _ (by decide +kernel)) ggX2_get_X2_table
set_option maxRecDepth 20000 in
theorem ggX2_get_X2_place : GoodIn wsX2_get wsX2_place := goodIn_r _ [14, 15, 16, 21, 22, 23, 24, 25, 26] (by decide +kernel) (by decide +kernel)
set_option maxRecDepth 20000 in
theorem gX2_get_X2_place : GoodIn wsX2_get (wsV RX2 25 RX2 yX2_place wsX2_place) := goodIn_app (goodIn_of _ (by decide +kernel)) ggX2_get_X2_place
set_option maxRecDepth 20000 in
theorem ggX2_get_X2_is : GoodIn wsX2_get wsX2_is := goodIn_r _ [20, 15, 16, 21, 22, 23, 24, 25, 26] (by decide +kernel) (by decide +kernel)
set_option maxRecDepth 20000 in
theorem gX2_get_X2_is : GoodIn wsX2_get (wsV RX2 29 RX2 yX2_is wsX2_is) := goodIn_app (goodIn_of _ (by decide +kernel)) ggX2_get_X2_is
theorem dX2_get_0 : decode cX2_get 0 = .ok (.aload_n 0, 1) := by decide +kernel
theorem dX2_get_1 : decode cX2_get 1 = .ok (.iload_n 1, 1) := by decide +kernel
theorem dX2_get_2 : decode cX2_get 2 = .ok (.invokevirtual 45, 3) := by decide +kernel
theorem dX2_get_5 : decode cX2_get 5 = .ok (.istore_n 3, 1) := by decide +kernel
theorem dX2_get_6 : decode cX2_get 6 = .ok (.iload_n 3, 1) := by decide +kernel
theorem dX2_get_7 : decode cX2_get 7 = .ok (.ifCond .ge 10, 3) := by decide +kernel
theorem dX2_get_10 : decode cX2_get 10 = .ok (.ldc2_w 49, 3) := by decide +kernel
theorem dX2_get_13 : decode cX2_get 13 = .ok (.iload_n 3, 1) := by decide +kernel
theorem dX2_get_14 : decode cX2_get 14 = .ok (.i2l, 1) := by decide +kernel
theorem dX2_get_15 : decode cX2_get 15 = .ok (.ladd, 1) := by decide +kernel
theorem dX2_get_16 : decode cX2_get 16 = .ok (.lreturn, 1) := by decide +kernel
theorem dX2_get_17 : decode cX2_get 17 = .ok (.aload_n 0, 1) := by decide +kernel
theorem dX2_get_18 : decode cX2_get 18 = .ok (.iload_n 3, 1) := by decide +kernel
theorem dX2_get_19 : decode cX2_get 19 = .ok (.iload_n 2, 1) := by decide +kernel
theorem dX2_get_20 : decode cX2_get 20 = .ok (.invokevirtual 25, 3) := by decide +kernel
theorem dX2_get_23 : decode cX2_get 23 = .ok (.istore 4, 2) := by decide +kernel
theorem dX2_get_25 : decode cX2_get 25 = .ok (.aload_n 0, 1) := by decide +kernel
theorem dX2_get_26 : decode cX2_get 26 = .ok (.iload_n 3, 1) := by decide +kernel
theorem dX2_get_27 : decode cX2_get 27 = .ok (.iload 4, 2) := by decide +kernel
theorem dX2_get_29 : decode cX2_get 29 = .ok (.iload_n 2, 1) := by decide +kernel
theorem dX2_get_30 : decode cX2_get 30 = .ok (.invokevirtual 29, 3) := by decide +kernel
theorem dX2_get_33 : decode cX2_get 33 = .ok (.ifCond .eq 14, 3) := by decide +kernel
theorem dX2_get_36 : decode cX2_get 36 = .ok (.aload_n 0, 1) := by decide +kernel
theorem dX2_get_37 : decode cX2_get 37 = .ok (.getfield 13, 3) := by decide +kernel
theorem dX2_get_40 : decode cX2_get 40 = .ok (.iload 4, 2) := by decide +kernel
theorem dX2_get_42 : decode cX2_get 42 = .ok (.iaload, 1) := by decide +kernel
theorem dX2_get_43 : decode cX2_get 43 = .ok (.i2l, 1) := by decide +kernel
theorem dX2_get_44 : decode cX2_get 44 = .ok (.goto 6, 3) := by decide +kernel
theorem dX2_get_47 : decode cX2_get 47 = .ok (.ldc2_w 51, 3) := by decide +kernel
theorem dX2_get_50 : decode cX2_get 50 = .ok (.lreturn, 1) := by decide +kernel
set_option maxRecDepth 20000 in
theorem ggX2_next_X2_table : GoodIn wsX2_next wsX2_table := goodIn_r _ [9, 10, 11, 20, 21, 22, 23, 24, 25] (by decide +kernel) (by decide +kernel)
set_option maxRecDepth 20000 in
theorem gX2_next_X2_table : GoodIn wsX2_next (wsV RX2 45 RX2 yX2_table wsX2_table) := goodIn_app (goodIn_of _ (by decide +kernel)) ggX2_next_X2_table
set_option maxRecDepth 20000 in
theorem ggX2_next_X2_place : GoodIn wsX2_next wsX2_place := goodIn_r _ [15, 2, 3, 20, 21, 22, 23, 24, 25] (by decide +kernel) (by decide +kernel)
set_option maxRecDepth 20000 in
theorem gX2_next_X2_place : GoodIn wsX2_next (wsV RX2 25 RX2 yX2_place wsX2_place) := goodIn_app (goodIn_of _ (by decide +kernel)) ggX2_next_X2_place
set_option maxRecDepth 20000 in
theorem ggX2_next_X2_is : GoodIn wsX2_next wsX2_is := goodIn_r _ [19, 2, 3, 20, 21, 22, 23, 24, 25] (by decide +kernel) (by decide +kernel)
set_option maxRecDepth 20000 in
theorem gX2_next_X2_is : GoodIn wsX2_next (wsV RX2 29 RX2 yX2_is wsX2_is) := goodIn_app (goodIn_of _ (by decide +kernel)) ggX2_next_X2_is
theorem dX2_next_0 : decode cX2_next 0 = .ok (.aload_n 0, 1) := by decide +kernel
theorem dX2_next_1 : decode cX2_next 1 = .ok (.iload_n 1, 1) := by decide +kernel
theorem dX2_next_2 : decode cX2_next 2 = .ok (.invokevirtual 45, 3) := by decide +kernel
theorem dX2_next_5 : decode cX2_next 5 = .ok (.istore_n 3, 1) := by decide +kernel
theorem dX2_next_6 : decode cX2_next 6 = .ok (.iload_n 3, 1) := by decide +kernel
theorem dX2_next_7 : decode cX2_next 7 = .ok (.ifCond .ge 10, 3) := by decide +kernel
theorem dX2_next_10 : decode cX2_next 10 = .ok (.ldc2_w 49, 3) := by decide +kernel
theorem dX2_next_13 : decode cX2_next 13 = .ok (.iload_n 3, 1) := by decide +kernel
theorem dX2_next_14 : decode cX2_next 14 = .ok (.i2l, 1) := by decide +kernel
theorem dX2_next_15 : decode cX2_next 15 = .ok (.ladd, 1) := by decide +kernel
theorem dX2_next_16 : decode cX2_next 16 = .ok (.lreturn, 1) := by decide +kernel
theorem dX2_next_17 : decode cX2_next 17 = .ok (.aload_n 0, 1) := by decide +kernel
theorem dX2_next_18 : decode cX2_next 18 = .ok (.iload_n 3, 1) := by decide +kernel
theorem dX2_next_19 : decode cX2_next 19 = .ok (.iload_n 2, 1) := by decide +kernel
theorem dX2_next_20 : decode cX2_next 20 = .ok (.invokevirtual 25, 3) := by decide +kernel
theorem dX2_next_23 : decode cX2_next 23 = .ok (.istore 4, 2) := by decide +kernel
theorem dX2_next_25 : decode cX2_next 25 = .ok (.aload_n 0, 1) := by decide +kernel
theorem dX2_next_26 : decode cX2_next 26 = .ok (.iload_n 3, 1) := by decide +kernel
theorem dX2_next_27 : decode cX2_next 27 = .ok (.iload 4, 2) := by decide +kernel
theorem dX2_next_29 : decode cX2_next 29 = .ok (.iload_n 2, 1) := by decide +kernel
theorem dX2_next_30 : decode cX2_next 30 = .ok (.invokevirtual 29, 3) := by decide +kernel
theorem dX2_next_33 : decode cX2_next 33 = .ok (.ifCond .eq 6, 3) := by decide +kernel
theorem dX2_next_36 : decode cX2_next 36 = .ok (.iinc 4 1, 3) := by decide +kernel
theorem dX2_next_39 : decode cX2_next 39 = .ok (.iload 4, 2) := by decide +kernel
theorem dX2_next_41 : decode cX2_next 41 = .ok (.sipush 400, 3) := by decide +kernel
theorem dX2_next_44 : decode cX2_next 44 = .ok (.iload_n 3, 1) := by decide +kernel
theorem dX2_next_45 : decode cX2_next 45 = .ok (.imul, 1) := by decide +kernel
theorem dX2_next_46 : decode cX2_next 46 = .ok (.aload_n 0, 1) := by decide +kernel
theorem dX2_next_47 : decode cX2_next 47 = .ok (.getfield 19, 3) := by decide +kernel
theorem dX2_next_50 : decode cX2_next 50 = .ok (.iload_n 3, 1) := by decide +kernel
theorem dX2_next_51 : decode cX2_next 51 = .ok (.iaload, 1) := by decide +kernel
theorem dX2_next_52 : decode cX2_next 52 = .ok (.iadd, 1) := by decide +kernel
theorem dX2_next_53 : decode cX2_next 53 = .ok (.if_icmp .ge 14, 3) := by decide +kernel
theorem dX2_next_56 : decode cX2_next 56 = .ok (.aload_n 0, 1) := by decide +kernel
theorem dX2_next_57 : decode cX2_next 57 = .ok (.getfield 9, 3) := by decide +kernel
theorem dX2_next_60 : decode cX2_next 60 = .ok (.iload 4, 2) := by decide +kernel
theorem dX2_next_62 : decode cX2_next 62 = .ok (.iaload, 1) := by decide +kernel
theorem dX2_next_63 : decode cX2_next 63 = .ok (.i2l, 1) := by decide +kernel
theorem dX2_next_64 : decode cX2_next 64 = .ok (.goto 6, 3) := by decide +kernel
theorem dX2_next_67 : decode cX2_next 67 = .ok (.ldc2_w 51, 3) := by decide +kernel
theorem dX2_next_70 : decode cX2_next 70 = .ok (.lreturn, 1) := by decide +kernel
set_option maxRecDepth 20000 in
theorem ggX2_size_X2_table : GoodIn wsX2_size wsX2_table := goodIn_r _ [6, 7, 8, 19, 20, 21, 22, 23, 24] (by decide +kernel) (by decide +kernel)
set_option maxRecDepth 20000 in
theorem gX2_size_X2_table : GoodIn wsX2_size (wsV RX2 45 RX2 yX2_table wsX2_table) := goodIn_app (goodIn_of _ (by decide +kernel)) ggX2_size_X2_table
set_option maxRecDepth 20000 in
theorem ggX2_size_X2_place : GoodIn wsX2_size wsX2_place := goodIn_r _ [12, 13, 14, 19, 20, 21, 22, 23, 24] (by decide +kernel) (by decide +kernel)
set_option maxRecDepth 20000 in
theorem gX2_size_X2_place : GoodIn wsX2_size (wsV RX2 25 RX2 yX2_place wsX2_place) := goodIn_app (goodIn_of _ (by decide +kernel)) ggX2_size_X2_place
set_option maxRecDepth 20000 in
theorem ggX2_size_X2_is : GoodIn wsX2_size wsX2_is := goodIn_r _ [18, 13, 14, 19, 20, 21, 22, 23, 24] (by decide +kernel) (by decide +kernel)
set_option maxRecDepth 20000 in
theorem gX2_size_X2_is : GoodIn wsX2_size (wsV RX2 29 RX2 yX2_is wsX2_is) := goodIn_app (goodIn_of _ (by decide +kernel)) ggX2_size_X2_is
theorem dX2_size_0 : decode cX2_size 0 = .ok (.aload_n 0, 1) := by decide +kernel
theorem dX2_size_1 : decode cX2_size 1 = .ok (.iload_n 1, 1) := by decide +kernel
theorem dX2_size_2 : decode cX2_size 2 = .ok (.invokevirtual 45, 3) := by decide +kernel
theorem dX2_size_5 : decode cX2_size 5 = .ok (.istore_n 3, 1) := by decide +kernel
theorem dX2_size_6 : decode cX2_size 6 = .ok (.iload_n 3, 1) := by decide +kernel
theorem dX2_size_7 : decode cX2_size 7 = .ok (.ifCond .ge 5, 3) := by decide +kernel
theorem dX2_size_10 : decode cX2_size 10 = .ok (.iload_n 3, 1) := by decide +kernel
theorem dX2_size_11 : decode cX2_size 11 = .ok (.ireturn, 1) := by decide +kernel
theorem dX2_size_12 : decode cX2_size 12 = .ok (.aload_n 0, 1) := by decide +kernel
theorem dX2_size_13 : decode cX2_size 13 = .ok (.iload_n 3, 1) := by decide +kernel
theorem dX2_size_14 : decode cX2_size 14 = .ok (.iload_n 2, 1) := by decide +kernel
theorem dX2_size_15 : decode cX2_size 15 = .ok (.invokevirtual 25, 3) := by decide +kernel
theorem dX2_size_18 : decode cX2_size 18 = .ok (.istore 4, 2) := by decide +kernel
theorem dX2_size_20 : decode cX2_size 20 = .ok (.aload_n 0, 1) := by decide +kernel
theorem dX2_size_21 : decode cX2_size 21 = .ok (.iload_n 3, 1) := by decide +kernel
theorem dX2_size_22 : decode cX2_size 22 = .ok (.iload 4, 2) := by decide +kernel
theorem dX2_size_24 : decode cX2_size 24 = .ok (.iload_n 2, 1) := by decide +kernel
theorem dX2_size_25 : decode cX2_size 25 = .ok (.invokevirtual 29, 3) := by decide +kernel
theorem dX2_size_28 : decode cX2_size 28 = .ok (.ifCond .eq 13, 3) := by decide +kernel
theorem dX2_size_31 : decode cX2_size 31 = .ok (.aload_n 0, 1) := by decide +kernel
theorem dX2_size_32 : decode cX2_size 32 = .ok (.getfield 16, 3) := by decide +kernel
theorem dX2_size_35 : decode cX2_size 35 = .ok (.iload 4, 2) := by decide +kernel
theorem dX2_size_37 : decode cX2_size 37 = .ok (.iaload, 1) := by decide +kernel
theorem dX2_size_38 : decode cX2_size 38 = .ok (.goto 5, 3) := by decide +kernel
theorem dX2_size_41 : decode cX2_size 41 = .ok (.bipush (-2), 2) := by decide +kernel
theorem dX2_size_43 : decode cX2_size 43 = .ok (.ireturn, 1) := by decide +kernel
set_option maxRecDepth 20000 in
theorem ggX2_count_X2_table : GoodIn wsX2_count wsX2_table := goodIn_r _ [6, 7, 8, 9, 10, 11, 12, 13, 14] (by decide +kernel) (by decide +kernel)
set_option maxRecDepth 20000 in
theorem gX2_count_X2_table : GoodIn wsX2_count (wsV RX2 45 RX2 yX2_table wsX2_table) := goodIn_app (goodIn_of _ (by decide +kernel)) ggX2_count_X2_table
theorem dX2_count_0 : decode cX2_count 0 = .ok (.aload_n 0, 1) := by decide +kernel
theorem dX2_count_1 : decode cX2_count 1 = .ok (.iload_n 1, 1) := by decide +kernel
theorem dX2_count_2 : decode cX2_count 2 = .ok (.invokevirtual 45, 3) := by decide +kernel
theorem dX2_count_5 : decode cX2_count 5 = .ok (.istore_n 2, 1) := by decide +kernel
theorem dX2_count_6 : decode cX2_count 6 = .ok (.iload_n 2, 1) := by decide +kernel
theorem dX2_count_7 : decode cX2_count 7 = .ok (.ifCond .ge 7, 3) := by decide +kernel
theorem dX2_count_10 : decode cX2_count 10 = .ok (.iload_n 2, 1) := by decide +kernel
theorem dX2_count_11 : decode cX2_count 11 = .ok (.goto 9, 3) := by decide +kernel
theorem dX2_count_14 : decode cX2_count 14 = .ok (.aload_n 0, 1) := by decide +kernel
theorem dX2_count_15 : decode cX2_count 15 = .ok (.getfield 19, 3) := by decide +kernel
theorem dX2_count_18 : decode cX2_count 18 = .ok (.iload_n 2, 1) := by decide +kernel
theorem dX2_count_19 : decode cX2_count 19 = .ok (.iaload, 1) := by decide +kernel
theorem dX2_count_20 : decode cX2_count 20 = .ok (.ireturn, 1) := by decide +kernel
theorem dJ9_floorMod_7cf53_0 : decode cJ9_floorMod_7cf53 0 = .ok (.iload_n 0, 1) := by decide +kernel
theorem dJ9_floorMod_7cf53_1 : decode cJ9_floorMod_7cf53 1 = .ok (.iload_n 1, 1) := by decide +kernel
theorem dJ9_floorMod_7cf53_2 : decode cJ9_floorMod_7cf53 2 = .ok (.irem, 1) := by decide +kernel
theorem dJ9_floorMod_7cf53_3 : decode cJ9_floorMod_7cf53 3 = .ok (.istore_n 2, 1) := by decide +kernel
theorem dJ9_floorMod_7cf53_4 : decode cJ9_floorMod_7cf53 4 = .ok (.iload_n 0, 1) := by decide +kernel
theorem dJ9_floorMod_7cf53_5 : decode cJ9_floorMod_7cf53 5 = .ok (.iload_n 1, 1) := by decide +kernel
theorem dJ9_floorMod_7cf53_6 : decode cJ9_floorMod_7cf53 6 = .ok (.ixor, 1) := by decide +kernel
theorem dJ9_floorMod_7cf53_7 : decode cJ9_floorMod_7cf53 7 = .ok (.ifCond .ge 11, 3) := by decide +kernel
theorem dJ9_floorMod_7cf53_10 : decode cJ9_floorMod_7cf53 10 = .ok (.iload_n 2, 1) := by decide +kernel
theorem dJ9_floorMod_7cf53_11 : decode cJ9_floorMod_7cf53 11 = .ok (.ifCond .eq 7, 3) := by decide +kernel
theorem dJ9_floorMod_7cf53_14 : decode cJ9_floorMod_7cf53 14 = .ok (.iload_n 2, 1) := by decide +kernel
theorem dJ9_floorMod_7cf53_15 : decode cJ9_floorMod_7cf53 15 = .ok (.iload_n 1, 1) := by decide +kernel
theorem dJ9_floorMod_7cf53_16 : decode cJ9_floorMod_7cf53 16 = .ok (.iadd, 1) := by decide +kernel
theorem dJ9_floorMod_7cf53_17 : decode cJ9_floorMod_7cf53 17 = .ok (.ireturn, 1) := by decide +kernel
theorem dJ9_floorMod_7cf53_18 : decode cJ9_floorMod_7cf53 18 = .ok (.iload_n 2, 1) := by decide +kernel
theorem dJ9_floorMod_7cf53_19 : decode cJ9_floorMod_7cf53 19 = .ok (.ireturn, 1) := by decide +kernel
set_option maxRecDepth 20000 in
theorem ggL_law_X1_init : GoodIn wsL_law wsX1_init := goodIn_r _ [8, 9, 10, 11, 12, 13, 14, 15, 16, 17, 18, 19, 20, 21, 22, 23, 24, 25, 26, 213, 214, 215, 216, 203, 204, 205, 206] (by decide +kernel) (by decide +kernel)
set_option maxRecDepth 20000 in
theorem gL_law_X1_init : GoodIn wsL_law (wsX1_init) := ggL_law_X1_init
set_option maxRecDepth 20000 in
theorem ggL_law_X2_init : GoodIn wsL_law wsX2_init := goodIn_r _ [29, 30, 10, 11, 17, 31, 32, 33, 34, 35, 207, 208, 209, 210, 211, 212] (by decide +kernel) (by decide +kernel)
set_option maxRecDepth 20000 in
theorem gL_law_X2_init : GoodIn wsL_law (wsX2_init) := ggL_law_X2_init
set_option maxRecDepth 20000 in
theorem ggL_law_X1_put : GoodIn wsL_law wsX1_put := goodIn_r _ [39, 15, 40, 41, 42, 14, 43, 26, 23, 24, 25, 44, 45, 46, 47, 48, 49, 50, 51, 52, 53, 54, 55, 56, 57, 58, 59, 203, 204, 205, 206, 213, 214, 215, 216] (by decide +kernel) (by decide +kernel)
set_option maxRecDepth 20000 in
theorem gL_law_X1_put : GoodIn wsL_law (wsV RL 13 RX1 yX1_put wsX1_put) := goodIn_app (goodIn_of _ (by decide +kernel)) ggL_law_X1_put
set_option maxRecDepth 20000 in
theorem ggL_law_X2_put : GoodIn wsL_law wsX2_put := goodIn_r _ [63, 34, 31, 32, 33, 64, 65, 66, 5, 67, 68, 69, 70, 71, 207, 208, 209, 210, 211, 212] (by decide +kernel) (by decide +kernel)
set_option maxRecDepth 20000 in
theorem gL_law_X2_put : GoodIn wsL_law (wsV RL 17 RX2 yX2_put wsX2_put) := goodIn_app (goodIn_of _ (by decide +kernel)) ggL_law_X2_put
set_option maxRecDepth 20000 in
theorem ggL_law_X1_some : GoodIn wsL_law wsX1_some := goodIn_r _ [75, 15, 76, 77, 2, 78, 40, 41, 42, 14, 43, 26, 23, 24, 25, 44, 45, 46, 47, 48, 49, 50, 51, 52, 53, 54, 55, 56, 57, 58, 59, 203, 204, 205, 206, 213, 214, 215, 216] (by decide +kernel) (by decide +kernel)
set_option maxRecDepth 20000 in
theorem gL_law_X1_some : GoodIn wsL_law (wsV RL 18 RX1 yX1_some wsX1_some) := goodIn_app (goodIn_of _ (by decide +kernel)) ggL_law_X1_some
set_option maxRecDepth 20000 in
theorem ggL_law_X2_some : GoodIn wsL_law wsX2_some := goodIn_r _ [82, 83, 61, 62, 5, 63, 34, 31, 32, 33, 64, 65, 66, 67, 68, 69, 70, 71, 207, 208, 209, 210, 211, 212] (by decide +kernel) (by decide +kernel)
set_option maxRecDepth 20000 in
theorem gL_law_X2_some : GoodIn wsL_law (wsV RL 22 RX2 yX2_some wsX2_some) := goodIn_app (goodIn_of _ (by decide +kernel)) ggL_law_X2_some
set_option maxRecDepth 20000 in
theorem ggL_law_X1_remove : GoodIn wsL_law wsX1_remove := goodIn_r _ [87, 15, 88, 89, 90, 91, 14, 92, 26, 44, 45, 46, 47, 23, 48, 49, 50, 51, 52, 53, 54, 55, 56, 57, 58, 59, 24, 25, 203, 204, 205, 206, 213, 214, 215, 216] (by decide +kernel) (by decide +kernel)
set_option maxRecDepth 20000 in
theorem gL_law_X1_remove : GoodIn wsL_law (wsV RL 23 RX1 yX1_remove wsX1_remove) := goodIn_app (goodIn_of _ (by decide +kernel)) ggL_law_X1_remove
set_option maxRecDepth 20000 in
theorem ggL_law_X2_remove : GoodIn wsL_law wsX2_remove := goodIn_r _ [96, 34, 31, 32, 33, 64, 65, 66, 5, 67, 68, 69, 70, 71, 207, 208, 209, 210, 211, 212] (by decide +kernel) (by decide +kernel)
set_option maxRecDepth 20000 in
theorem gL_law_X2_remove : GoodIn wsL_law (wsV RL 27 RX2 yX2_remove wsX2_remove) := goodIn_app (goodIn_of _ (by decide +kernel)) ggL_law_X2_remove
set_option maxRecDepth 20000 in
theorem ggL_law_X1_commit : GoodIn wsL_law wsX1_commit := goodIn_r _ [100, 15, 19, 101, 102, 103, 2, 104, 16, 105, 106, 107, 108, 109, 110, 111, 14, 112, 23, 26, 56, 57, 58, 59, 24, 25, 203, 204, 205, 206, 213, 214, 215, 216] (by decide +kernel) (by decide +kernel)
set_option maxRecDepth 20000 in
theorem gL_law_X1_commit : GoodIn wsL_law (wsV RL 28 RX1 yX1_commit wsX1_commit) := goodIn_app (goodIn_of _ (by decide +kernel)) ggL_law_X1_commit
set_option maxRecDepth 20000 in
theorem ggL_law_X2_commit : GoodIn wsL_law wsX2_commit := goodIn_r _ [116, 117, 118, 119, 120, 5, 121, 34, 31, 32, 33, 207, 208, 209, 210, 211, 212] (by decide +kernel) (by decide +kernel)
set_option maxRecDepth 20000 in
theorem gL_law_X2_commit : GoodIn wsL_law (wsV RL 31 RX2 yX2_commit wsX2_commit) := goodIn_app (goodIn_of _ (by decide +kernel)) ggL_law_X2_commit
set_option maxRecDepth 20000 in
theorem ggL_law_X1_forget : GoodIn wsL_law wsX1_forget := goodIn_r _ [125, 15, 19, 88, 101, 102, 103, 2, 104, 16, 105, 106, 107, 108, 109, 110, 111, 14, 112, 23, 26, 56, 57, 58, 59, 24, 25, 203, 204, 205, 206, 213, 214, 215, 216] (by decide +kernel) (by decide +kernel)
set_option maxRecDepth 20000 in
theorem gL_law_X1_forget : GoodIn wsL_law (wsV RL 32 RX1 yX1_forget wsX1_forget) := goodIn_app (goodIn_of _ (by decide +kernel)) ggL_law_X1_forget
set_option maxRecDepth 20000 in
theorem ggL_law_X2_forget : GoodIn wsL_law wsX2_forget := goodIn_r _ [129, 117, 34, 118, 119, 120, 5, 121, 31, 32, 33, 207, 208, 209, 210, 211, 212] (by decide +kernel) (by decide +kernel)
set_option maxRecDepth 20000 in
theorem gL_law_X2_forget : GoodIn wsL_law (wsV RL 36 RX2 yX2_forget wsX2_forget) := goodIn_app (goodIn_of _ (by decide +kernel)) ggL_law_X2_forget
set_option maxRecDepth 20000 in
theorem ggL_law_X1_open : GoodIn wsL_law wsX1_open := goodIn_r _ [133, 18, 19, 203, 204, 205, 206] (by decide +kernel) (by decide +kernel)
set_option maxRecDepth 20000 in
theorem gL_law_X1_open : GoodIn wsL_law (wsV RL 37 RX1 yX1_open wsX1_open) := goodIn_app (goodIn_of _ (by decide +kernel)) ggL_law_X1_open
set_option maxRecDepth 20000 in
theorem ggL_law_X2_open : GoodIn wsL_law wsX2_open := goodIn_r _ [137, 35, 117, 207, 208, 209, 210, 211, 212] (by decide +kernel) (by decide +kernel)
set_option maxRecDepth 20000 in
theorem gL_law_X2_open : GoodIn wsL_law (wsV RL 40 RX2 yX2_open wsX2_open) := goodIn_app (goodIn_of _ (by decide +kernel)) ggL_law_X2_open
set_option maxRecDepth 20000 in
theorem ggL_law_X1_get : GoodIn wsL_law wsX1_get := goodIn_r _ [141, 142, 143, 144, 145, 146, 147, 2, 148, 19, 18, 149, 150, 151, 152, 15, 101, 102, 103, 104, 16, 105, 106, 107, 108, 153, 45, 46, 14, 47, 26, 23, 154, 49, 50, 51, 213, 214, 215, 216, 203, 204, 205, 206] (by decide +kernel) (by decide +kernel)
set_option maxRecDepth 20000 in
theorem gL_law_X1_get : GoodIn wsL_law (wsV RL 41 RX1 yX1_get wsX1_get) := goodIn_app (goodIn_of _ (by decide +kernel)) ggL_law_X1_get
set_option maxRecDepth 20000 in
theorem ggL_law_X2_get : GoodIn wsL_law wsX2_get := goodIn_r _ [158, 159, 32, 160, 161, 162, 163, 5, 164, 35, 117, 64, 65, 66, 67, 34, 31, 68, 69, 70, 71, 207, 208, 209, 210, 211, 212] (by decide +kernel) (by decide +kernel)
set_option maxRecDepth 20000 in
theorem gL_law_X2_get : GoodIn wsL_law (wsV RL 45 RX2 yX2_get wsX2_get) := goodIn_app (goodIn_of _ (by decide +kernel)) ggL_law_X2_get
set_option maxRecDepth 20000 in
theorem ggL_law_X1_next : GoodIn wsL_law wsX1_next := goodIn_r _ [168, 142, 88, 169, 144, 145, 146, 147, 2, 148, 19, 18, 149, 150, 151, 152, 15, 101, 102, 103, 104, 16, 105, 106, 107, 108, 170, 171, 172, 14, 173, 44, 45, 46, 47, 26, 23, 48, 49, 50, 51, 213, 214, 215, 216, 203, 204, 205, 206] (by decide +kernel) (by decide +kernel)
set_option maxRecDepth 20000 in
theorem gL_law_X1_next : GoodIn wsL_law (wsV RL 46 RX1 yX1_next wsX1_next) := goodIn_app (goodIn_of _ (by decide +kernel)) ggL_law_X1_next
set_option maxRecDepth 20000 in
theorem ggL_law_X2_next : GoodIn wsL_law wsX2_next := goodIn_r _ [177, 159, 34, 31, 160, 161, 162, 163, 5, 164, 35, 117, 64, 65, 66, 67, 68, 69, 70, 71, 207, 208, 209, 210, 211, 212] (by decide +kernel) (by decide +kernel)
set_option maxRecDepth 20000 in
theorem gL_law_X2_next : GoodIn wsL_law (wsV RL 49 RX2 yX2_next wsX2_next) := goodIn_app (goodIn_of _ (by decide +kernel)) ggL_law_X2_next
set_option maxRecDepth 20000 in
theorem ggL_law_X1_size : GoodIn wsL_law wsX1_size := goodIn_r _ [181, 182, 145, 146, 147, 2, 148, 19, 18, 149, 150, 151, 152, 15, 101, 102, 103, 104, 16, 105, 106, 107, 108, 153, 45, 46, 14, 47, 26, 23, 154, 49, 50, 51, 213, 214, 215, 216, 203, 204, 205, 206] (by decide +kernel) (by decide +kernel)
set_option maxRecDepth 20000 in
theorem gL_law_X1_size : GoodIn wsL_law (wsV RL 50 RX1 yX1_size wsX1_size) := goodIn_app (goodIn_of _ (by decide +kernel)) ggL_law_X1_size
set_option maxRecDepth 20000 in
theorem ggL_law_X2_size : GoodIn wsL_law wsX2_size := goodIn_r _ [186, 33, 161, 162, 163, 5, 164, 35, 117, 64, 65, 66, 67, 34, 31, 68, 69, 70, 71, 207, 208, 209, 210, 211, 212] (by decide +kernel) (by decide +kernel)
set_option maxRecDepth 20000 in
theorem gL_law_X2_size : GoodIn wsL_law (wsV RL 54 RX2 yX2_size wsX2_size) := goodIn_app (goodIn_of _ (by decide +kernel)) ggL_law_X2_size
set_option maxRecDepth 20000 in
theorem ggL_law_X1_count : GoodIn wsL_law wsX1_count := goodIn_r _ [190, 88, 145, 146, 147, 2, 148, 19, 18, 149, 150, 151, 152, 15, 101, 102, 103, 104, 16, 105, 106, 107, 108, 213, 214, 215, 216, 203, 204, 205, 206] (by decide +kernel) (by decide +kernel)
set_option maxRecDepth 20000 in
theorem gL_law_X1_count : GoodIn wsL_law (wsV RL 55 RX1 yX1_count wsX1_count) := goodIn_app (goodIn_of _ (by decide +kernel)) ggL_law_X1_count
set_option maxRecDepth 20000 in
theorem ggL_law_X2_count : GoodIn wsL_law wsX2_count := goodIn_r _ [194, 34, 161, 162, 163, 5, 164, 35, 117, 207, 208, 209, 210, 211, 212] (by decide +kernel) (by decide +kernel)
set_option maxRecDepth 20000 in
theorem gL_law_X2_count : GoodIn wsL_law (wsV RL 58 RX2 yX2_count wsX2_count) := goodIn_app (goodIn_of _ (by decide +kernel)) ggL_law_X2_count
set_option maxRecDepth 20000 in
theorem ggL_law_X1_digest : GoodIn wsL_law wsX1_digest := goodIn_r _ [198, 145, 146, 147, 2, 148, 19, 18, 149, 150, 151, 152, 15, 101, 102, 103, 104, 16, 105, 106, 107, 108, 199, 200, 201, 14, 202, 26, 23, 24, 25, 203, 204, 205, 206, 213, 214, 215, 216] (by decide +kernel) (by decide +kernel)
set_option maxRecDepth 20000 in
theorem gL_law_X1_digest : GoodIn wsL_law (wsV RL 59 RX1 yX1_digest wsX1_digest) := goodIn_app (goodIn_of _ (by decide +kernel)) ggL_law_X1_digest
theorem dL_law_0 : decode cL_law 0 = .ok (.new 7, 3) := by decide +kernel
theorem dL_law_3 : decode cL_law 3 = .ok (.dup, 1) := by decide +kernel
theorem dL_law_4 : decode cL_law 4 = .ok (.invokespecial 9, 3) := by decide +kernel
theorem dL_law_7 : decode cL_law 7 = .ok (.astore_n 1, 1) := by decide +kernel
theorem dL_law_8 : decode cL_law 8 = .ok (.new 10, 3) := by decide +kernel
theorem dL_law_11 : decode cL_law 11 = .ok (.dup, 1) := by decide +kernel
theorem dL_law_12 : decode cL_law 12 = .ok (.invokespecial 12, 3) := by decide +kernel
theorem dL_law_15 : decode cL_law 15 = .ok (.astore_n 2, 1) := by decide +kernel
theorem dL_law_16 : decode cL_law 16 = .ok (.iconst 0, 1) := by decide +kernel
theorem dL_law_17 : decode cL_law 17 = .ok (.istore_n 3, 1) := by decide +kernel
theorem dL_law_18 : decode cL_law 18 = .ok (.iload_n 3, 1) := by decide +kernel
theorem dL_law_19 : decode cL_law 19 = .ok (.aload_n 0, 1) := by decide +kernel
theorem dL_law_20 : decode cL_law 20 = .ok (.arraylength, 1) := by decide +kernel
theorem dL_law_21 : decode cL_law 21 = .ok (.iconst 5, 1) := by decide +kernel
theorem dL_law_22 : decode cL_law 22 = .ok (.isub, 1) := by decide +kernel
theorem dL_law_23 : decode cL_law 23 = .ok (.if_icmp .gt 400, 3) := by decide +kernel
theorem dL_law_26 : decode cL_law 26 = .ok (.aload_n 0, 1) := by decide +kernel
theorem dL_law_27 : decode cL_law 27 = .ok (.iload_n 3, 1) := by decide +kernel
theorem dL_law_28 : decode cL_law 28 = .ok (.iaload, 1) := by decide +kernel
theorem dL_law_29 : decode cL_law 29 = .ok (.bipush 15, 2) := by decide +kernel
theorem dL_law_31 : decode cL_law 31 = .ok (.iand, 1) := by decide +kernel
theorem dL_law_32 : decode cL_law 32 = .ok (.tableswitch 385 0 10 #[60, 103, 156, 179, 202, 215, 238, 272, 306, 339, 362], 60) := by decide +kernel
theorem dL_law_92 : decode cL_law 92 = .ok (.aload_n 1, 1) := by decide +kernel
theorem dL_law_93 : decode cL_law 93 = .ok (.aload_n 0, 1) := by decide +kernel
theorem dL_law_94 : decode cL_law 94 = .ok (.iload_n 3, 1) := by decide +kernel
theorem dL_law_95 : decode cL_law 95 = .ok (.iconst 1, 1) := by decide +kernel
theorem dL_law_96 : decode cL_law 96 = .ok (.iadd, 1) := by decide +kernel
theorem dL_law_97 : decode cL_law 97 = .ok (.iaload, 1) := by decide +kernel
theorem dL_law_98 : decode cL_law 98 = .ok (.aload_n 0, 1) := by decide +kernel
theorem dL_law_99 : decode cL_law 99 = .ok (.iload_n 3, 1) := by decide +kernel
theorem dL_law_100 : decode cL_law 100 = .ok (.iconst 2, 1) := by decide +kernel
theorem dL_law_101 : decode cL_law 101 = .ok (.iadd, 1) := by decide +kernel
theorem dL_law_102 : decode cL_law 102 = .ok (.iaload, 1) := by decide +kernel
theorem dL_law_103 : decode cL_law 103 = .ok (.aload_n 0, 1) := by decide +kernel
theorem dL_law_104 : decode cL_law 104 = .ok (.iload_n 3, 1) := by decide +kernel
theorem dL_law_105 : decode cL_law 105 = .ok (.iconst 3, 1) := by decide +kernel
theorem dL_law_106 : decode cL_law 106 = .ok (.iadd, 1) := by decide +kernel
theorem dL_law_107 : decode cL_law 107 = .ok (.iaload, 1) := by decide +kernel
theorem dL_law_108 : decode cL_law 108 = .ok (.invokevirtual 13, 3) := by decide +kernel
theorem dL_law_111 : decode cL_law 111 = .ok (.aload_n 2, 1) := by decide +kernel
theorem dL_law_112 : decode cL_law 112 = .ok (.aload_n 0, 1) := by decide +kernel
theorem dL_law_113 : decode cL_law 113 = .ok (.iload_n 3, 1) := by decide +kernel
theorem dL_law_114 : decode cL_law 114 = .ok (.iconst 1, 1) := by decide +kernel
theorem dL_law_115 : decode cL_law 115 = .ok (.iadd, 1) := by decide +kernel
theorem dL_law_116 : decode cL_law 116 = .ok (.iaload, 1) := by decide +kernel
theorem dL_law_117 : decode cL_law 117 = .ok (.aload_n 0, 1) := by decide +kernel
theorem dL_law_118 : decode cL_law 118 = .ok (.iload_n 3, 1) := by decide +kernel
theorem dL_law_119 : decode cL_law 119 = .ok (.iconst 2, 1) := by decide +kernel
theorem dL_law_120 : decode cL_law 120 = .ok (.iadd, 1) := by decide +kernel
theorem dL_law_121 : decode cL_law 121 = .ok (.iaload, 1) := by decide +kernel
theorem dL_law_122 : decode cL_law 122 = .ok (.aload_n 0, 1) := by decide +kernel
theorem dL_law_123 : decode cL_law 123 = .ok (.iload_n 3, 1) := by decide +kernel
theorem dL_law_124 : decode cL_law 124 = .ok (.iconst 3, 1) := by decide +kernel
theorem dL_law_125 : decode cL_law 125 = .ok (.iadd, 1) := by decide +kernel
theorem dL_law_126 : decode cL_law 126 = .ok (.iaload, 1) := by decide +kernel
theorem dL_law_127 : decode cL_law 127 = .ok (.invokevirtual 17, 3) := by decide +kernel
theorem dL_law_130 : decode cL_law 130 = .ok (.if_icmp .eq 287, 3) := by decide +kernel
theorem dL_law_133 : decode cL_law 133 = .ok (.iconst 0, 1) := by decide +kernel
theorem dL_law_134 : decode cL_law 134 = .ok (.ireturn, 1) := by decide +kernel
theorem dL_law_135 : decode cL_law 135 = .ok (.aload_n 1, 1) := by decide +kernel
theorem dL_law_136 : decode cL_law 136 = .ok (.aload_n 0, 1) := by decide +kernel
theorem dL_law_137 : decode cL_law 137 = .ok (.iload_n 3, 1) := by decide +kernel
theorem dL_law_138 : decode cL_law 138 = .ok (.iconst 1, 1) := by decide +kernel
theorem dL_law_139 : decode cL_law 139 = .ok (.iadd, 1) := by decide +kernel
theorem dL_law_140 : decode cL_law 140 = .ok (.iaload, 1) := by decide +kernel
theorem dL_law_141 : decode cL_law 141 = .ok (.aload_n 0, 1) := by decide +kernel
theorem dL_law_142 : decode cL_law 142 = .ok (.iload_n 3, 1) := by decide +kernel
theorem dL_law_143 : decode cL_law 143 = .ok (.iconst 2, 1) := by decide +kernel
theorem dL_law_144 : decode cL_law 144 = .ok (.iadd, 1) := by decide +kernel
theorem dL_law_145 : decode cL_law 145 = .ok (.iaload, 1) := by decide +kernel
theorem dL_law_146 : decode cL_law 146 = .ok (.aload_n 0, 1) := by decide +kernel
theorem dL_law_147 : decode cL_law 147 = .ok (.iload_n 3, 1) := by decide +kernel
theorem dL_law_148 : decode cL_law 148 = .ok (.iconst 3, 1) := by decide +kernel
theorem dL_law_149 : decode cL_law 149 = .ok (.iadd, 1) := by decide +kernel
theorem dL_law_150 : decode cL_law 150 = .ok (.iaload, 1) := by decide +kernel
theorem dL_law_151 : decode cL_law 151 = .ok (.aload_n 0, 1) := by decide +kernel
theorem dL_law_152 : decode cL_law 152 = .ok (.iload_n 3, 1) := by decide +kernel
theorem dL_law_153 : decode cL_law 153 = .ok (.iconst 4, 1) := by decide +kernel
theorem dL_law_154 : decode cL_law 154 = .ok (.iadd, 1) := by decide +kernel
theorem dL_law_155 : decode cL_law 155 = .ok (.iaload, 1) := by decide +kernel
theorem dL_law_156 : decode cL_law 156 = .ok (.invokevirtual 18, 3) := by decide +kernel
theorem dL_law_159 : decode cL_law 159 = .ok (.aload_n 2, 1) := by decide +kernel
theorem dL_law_160 : decode cL_law 160 = .ok (.aload_n 0, 1) := by decide +kernel
theorem dL_law_161 : decode cL_law 161 = .ok (.iload_n 3, 1) := by decide +kernel
theorem dL_law_162 : decode cL_law 162 = .ok (.iconst 1, 1) := by decide +kernel
theorem dL_law_163 : decode cL_law 163 = .ok (.iadd, 1) := by decide +kernel
theorem dL_law_164 : decode cL_law 164 = .ok (.iaload, 1) := by decide +kernel
theorem dL_law_165 : decode cL_law 165 = .ok (.aload_n 0, 1) := by decide +kernel
theorem dL_law_166 : decode cL_law 166 = .ok (.iload_n 3, 1) := by decide +kernel
theorem dL_law_167 : decode cL_law 167 = .ok (.iconst 2, 1) := by decide +kernel
theorem dL_law_168 : decode cL_law 168 = .ok (.iadd, 1) := by decide +kernel
theorem dL_law_169 : decode cL_law 169 = .ok (.iaload, 1) := by decide +kernel
theorem dL_law_170 : decode cL_law 170 = .ok (.aload_n 0, 1) := by decide +kernel
theorem dL_law_171 : decode cL_law 171 = .ok (.iload_n 3, 1) := by decide +kernel
theorem dL_law_172 : decode cL_law 172 = .ok (.iconst 3, 1) := by decide +kernel
theorem dL_law_173 : decode cL_law 173 = .ok (.iadd, 1) := by decide +kernel
theorem dL_law_174 : decode cL_law 174 = .ok (.iaload, 1) := by decide +kernel
theorem dL_law_175 : decode cL_law 175 = .ok (.aload_n 0, 1) := by decide +kernel
theorem dL_law_176 : decode cL_law 176 = .ok (.iload_n 3, 1) := by decide +kernel
theorem dL_law_177 : decode cL_law 177 = .ok (.iconst 4, 1) := by decide +kernel
theorem dL_law_178 : decode cL_law 178 = .ok (.iadd, 1) := by decide +kernel
theorem dL_law_179 : decode cL_law 179 = .ok (.iaload, 1) := by decide +kernel
theorem dL_law_180 : decode cL_law 180 = .ok (.invokevirtual 22, 3) := by decide +kernel
theorem dL_law_183 : decode cL_law 183 = .ok (.if_icmp .eq 234, 3) := by decide +kernel
theorem dL_law_186 : decode cL_law 186 = .ok (.iconst 0, 1) := by decide +kernel
theorem dL_law_187 : decode cL_law 187 = .ok (.ireturn, 1) := by decide +kernel
theorem dL_law_188 : decode cL_law 188 = .ok (.aload_n 1, 1) := by decide +kernel
theorem dL_law_189 : decode cL_law 189 = .ok (.aload_n 0, 1) := by decide +kernel
theorem dL_law_190 : decode cL_law 190 = .ok (.iload_n 3, 1) := by decide +kernel
theorem dL_law_191 : decode cL_law 191 = .ok (.iconst 1, 1) := by decide +kernel
theorem dL_law_192 : decode cL_law 192 = .ok (.iadd, 1) := by decide +kernel
theorem dL_law_193 : decode cL_law 193 = .ok (.iaload, 1) := by decide +kernel
theorem dL_law_194 : decode cL_law 194 = .ok (.invokevirtual 23, 3) := by decide +kernel
theorem dL_law_197 : decode cL_law 197 = .ok (.aload_n 2, 1) := by decide +kernel
theorem dL_law_198 : decode cL_law 198 = .ok (.aload_n 0, 1) := by decide +kernel
theorem dL_law_199 : decode cL_law 199 = .ok (.iload_n 3, 1) := by decide +kernel
theorem dL_law_200 : decode cL_law 200 = .ok (.iconst 1, 1) := by decide +kernel
theorem dL_law_201 : decode cL_law 201 = .ok (.iadd, 1) := by decide +kernel
theorem dL_law_202 : decode cL_law 202 = .ok (.iaload, 1) := by decide +kernel
theorem dL_law_203 : decode cL_law 203 = .ok (.invokevirtual 27, 3) := by decide +kernel
theorem dL_law_206 : decode cL_law 206 = .ok (.if_icmp .eq 211, 3) := by decide +kernel
theorem dL_law_209 : decode cL_law 209 = .ok (.iconst 0, 1) := by decide +kernel
theorem dL_law_210 : decode cL_law 210 = .ok (.ireturn, 1) := by decide +kernel
theorem dL_law_211 : decode cL_law 211 = .ok (.aload_n 1, 1) := by decide +kernel
theorem dL_law_212 : decode cL_law 212 = .ok (.aload_n 0, 1) := by decide +kernel
theorem dL_law_213 : decode cL_law 213 = .ok (.iload_n 3, 1) := by decide +kernel
theorem dL_law_214 : decode cL_law 214 = .ok (.iconst 1, 1) := by decide +kernel
theorem dL_law_215 : decode cL_law 215 = .ok (.iadd, 1) := by decide +kernel
theorem dL_law_216 : decode cL_law 216 = .ok (.iaload, 1) := by decide +kernel
theorem dL_law_217 : decode cL_law 217 = .ok (.invokevirtual 28, 3) := by decide +kernel
theorem dL_law_220 : decode cL_law 220 = .ok (.aload_n 2, 1) := by decide +kernel
theorem dL_law_221 : decode cL_law 221 = .ok (.aload_n 0, 1) := by decide +kernel
theorem dL_law_222 : decode cL_law 222 = .ok (.iload_n 3, 1) := by decide +kernel
theorem dL_law_223 : decode cL_law 223 = .ok (.iconst 1, 1) := by decide +kernel
theorem dL_law_224 : decode cL_law 224 = .ok (.iadd, 1) := by decide +kernel
theorem dL_law_225 : decode cL_law 225 = .ok (.iaload, 1) := by decide +kernel
theorem dL_law_226 : decode cL_law 226 = .ok (.invokevirtual 31, 3) := by decide +kernel
theorem dL_law_229 : decode cL_law 229 = .ok (.if_icmp .eq 188, 3) := by decide +kernel
theorem dL_law_232 : decode cL_law 232 = .ok (.iconst 0, 1) := by decide +kernel
theorem dL_law_233 : decode cL_law 233 = .ok (.ireturn, 1) := by decide +kernel
theorem dL_law_234 : decode cL_law 234 = .ok (.aload_n 1, 1) := by decide +kernel
theorem dL_law_235 : decode cL_law 235 = .ok (.invokevirtual 32, 3) := by decide +kernel
theorem dL_law_238 : decode cL_law 238 = .ok (.aload_n 2, 1) := by decide +kernel
theorem dL_law_239 : decode cL_law 239 = .ok (.invokevirtual 36, 3) := by decide +kernel
theorem dL_law_242 : decode cL_law 242 = .ok (.if_icmp .eq 175, 3) := by decide +kernel
theorem dL_law_245 : decode cL_law 245 = .ok (.iconst 0, 1) := by decide +kernel
theorem dL_law_246 : decode cL_law 246 = .ok (.ireturn, 1) := by decide +kernel
theorem dL_law_247 : decode cL_law 247 = .ok (.aload_n 1, 1) := by decide +kernel
theorem dL_law_248 : decode cL_law 248 = .ok (.aload_n 0, 1) := by decide +kernel
theorem dL_law_249 : decode cL_law 249 = .ok (.iload_n 3, 1) := by decide +kernel
theorem dL_law_250 : decode cL_law 250 = .ok (.iconst 1, 1) := by decide +kernel
theorem dL_law_251 : decode cL_law 251 = .ok (.iadd, 1) := by decide +kernel
theorem dL_law_252 : decode cL_law 252 = .ok (.iaload, 1) := by decide +kernel
theorem dL_law_253 : decode cL_law 253 = .ok (.invokevirtual 37, 3) := by decide +kernel
theorem dL_law_256 : decode cL_law 256 = .ok (.aload_n 2, 1) := by decide +kernel
theorem dL_law_257 : decode cL_law 257 = .ok (.aload_n 0, 1) := by decide +kernel
theorem dL_law_258 : decode cL_law 258 = .ok (.iload_n 3, 1) := by decide +kernel
theorem dL_law_259 : decode cL_law 259 = .ok (.iconst 1, 1) := by decide +kernel
theorem dL_law_260 : decode cL_law 260 = .ok (.iadd, 1) := by decide +kernel
theorem dL_law_261 : decode cL_law 261 = .ok (.iaload, 1) := by decide +kernel
theorem dL_law_262 : decode cL_law 262 = .ok (.invokevirtual 40, 3) := by decide +kernel
theorem dL_law_265 : decode cL_law 265 = .ok (.if_icmp .eq 152, 3) := by decide +kernel
theorem dL_law_268 : decode cL_law 268 = .ok (.iconst 0, 1) := by decide +kernel
theorem dL_law_269 : decode cL_law 269 = .ok (.ireturn, 1) := by decide +kernel
theorem dL_law_270 : decode cL_law 270 = .ok (.aload_n 1, 1) := by decide +kernel
theorem dL_law_271 : decode cL_law 271 = .ok (.aload_n 0, 1) := by decide +kernel
theorem dL_law_272 : decode cL_law 272 = .ok (.iload_n 3, 1) := by decide +kernel
theorem dL_law_273 : decode cL_law 273 = .ok (.iconst 1, 1) := by decide +kernel
theorem dL_law_274 : decode cL_law 274 = .ok (.iadd, 1) := by decide +kernel
theorem dL_law_275 : decode cL_law 275 = .ok (.iaload, 1) := by decide +kernel
theorem dL_law_276 : decode cL_law 276 = .ok (.aload_n 0, 1) := by decide +kernel
theorem dL_law_277 : decode cL_law 277 = .ok (.iload_n 3, 1) := by decide +kernel
theorem dL_law_278 : decode cL_law 278 = .ok (.iconst 2, 1) := by decide +kernel
theorem dL_law_279 : decode cL_law 279 = .ok (.iadd, 1) := by decide +kernel
theorem dL_law_280 : decode cL_law 280 = .ok (.iaload, 1) := by decide +kernel
theorem dL_law_281 : decode cL_law 281 = .ok (.invokevirtual 41, 3) := by decide +kernel
theorem dL_law_284 : decode cL_law 284 = .ok (.aload_n 2, 1) := by decide +kernel
theorem dL_law_285 : decode cL_law 285 = .ok (.aload_n 0, 1) := by decide +kernel
theorem dL_law_286 : decode cL_law 286 = .ok (.iload_n 3, 1) := by decide +kernel
theorem dL_law_287 : decode cL_law 287 = .ok (.iconst 1, 1) := by decide +kernel
theorem dL_law_288 : decode cL_law 288 = .ok (.iadd, 1) := by decide +kernel
theorem dL_law_289 : decode cL_law 289 = .ok (.iaload, 1) := by decide +kernel
theorem dL_law_290 : decode cL_law 290 = .ok (.aload_n 0, 1) := by decide +kernel
theorem dL_law_291 : decode cL_law 291 = .ok (.iload_n 3, 1) := by decide +kernel
theorem dL_law_292 : decode cL_law 292 = .ok (.iconst 2, 1) := by decide +kernel
theorem dL_law_293 : decode cL_law 293 = .ok (.iadd, 1) := by decide +kernel
theorem dL_law_294 : decode cL_law 294 = .ok (.iaload, 1) := by decide +kernel
theorem dL_law_295 : decode cL_law 295 = .ok (.invokevirtual 45, 3) := by decide +kernel
theorem dL_law_298 : decode cL_law 298 = .ok (.lcmp, 1) := by decide +kernel
theorem dL_law_299 : decode cL_law 299 = .ok (.ifCond .eq 118, 3) := by decide +kernel
theorem dL_law_302 : decode cL_law 302 = .ok (.iconst 0, 1) := by decide +kernel
theorem dL_law_303 : decode cL_law 303 = .ok (.ireturn, 1) := by decide +kernel
theorem dL_law_304 : decode cL_law 304 = .ok (.aload_n 1, 1) := by decide +kernel
theorem dL_law_305 : decode cL_law 305 = .ok (.aload_n 0, 1) := by decide +kernel
theorem dL_law_306 : decode cL_law 306 = .ok (.iload_n 3, 1) := by decide +kernel
theorem dL_law_307 : decode cL_law 307 = .ok (.iconst 1, 1) := by decide +kernel
theorem dL_law_308 : decode cL_law 308 = .ok (.iadd, 1) := by decide +kernel
theorem dL_law_309 : decode cL_law 309 = .ok (.iaload, 1) := by decide +kernel
theorem dL_law_310 : decode cL_law 310 = .ok (.aload_n 0, 1) := by decide +kernel
theorem dL_law_311 : decode cL_law 311 = .ok (.iload_n 3, 1) := by decide +kernel
theorem dL_law_312 : decode cL_law 312 = .ok (.iconst 2, 1) := by decide +kernel
theorem dL_law_313 : decode cL_law 313 = .ok (.iadd, 1) := by decide +kernel
theorem dL_law_314 : decode cL_law 314 = .ok (.iaload, 1) := by decide +kernel
theorem dL_law_315 : decode cL_law 315 = .ok (.invokevirtual 46, 3) := by decide +kernel
theorem dL_law_318 : decode cL_law 318 = .ok (.aload_n 2, 1) := by decide +kernel
theorem dL_law_319 : decode cL_law 319 = .ok (.aload_n 0, 1) := by decide +kernel
theorem dL_law_320 : decode cL_law 320 = .ok (.iload_n 3, 1) := by decide +kernel
theorem dL_law_321 : decode cL_law 321 = .ok (.iconst 1, 1) := by decide +kernel
theorem dL_law_322 : decode cL_law 322 = .ok (.iadd, 1) := by decide +kernel
theorem dL_law_323 : decode cL_law 323 = .ok (.iaload, 1) := by decide +kernel
theorem dL_law_324 : decode cL_law 324 = .ok (.aload_n 0, 1) := by decide +kernel
theorem dL_law_325 : decode cL_law 325 = .ok (.iload_n 3, 1) := by decide +kernel
theorem dL_law_326 : decode cL_law 326 = .ok (.iconst 2, 1) := by decide +kernel
theorem dL_law_327 : decode cL_law 327 = .ok (.iadd, 1) := by decide +kernel
theorem dL_law_328 : decode cL_law 328 = .ok (.iaload, 1) := by decide +kernel
theorem dL_law_329 : decode cL_law 329 = .ok (.invokevirtual 49, 3) := by decide +kernel
theorem dL_law_332 : decode cL_law 332 = .ok (.lcmp, 1) := by decide +kernel
theorem dL_law_333 : decode cL_law 333 = .ok (.ifCond .eq 84, 3) := by decide +kernel
theorem dL_law_336 : decode cL_law 336 = .ok (.iconst 0, 1) := by decide +kernel
theorem dL_law_337 : decode cL_law 337 = .ok (.ireturn, 1) := by decide +kernel
theorem dL_law_338 : decode cL_law 338 = .ok (.aload_n 1, 1) := by decide +kernel
theorem dL_law_339 : decode cL_law 339 = .ok (.aload_n 0, 1) := by decide +kernel
theorem dL_law_340 : decode cL_law 340 = .ok (.iload_n 3, 1) := by decide +kernel
theorem dL_law_341 : decode cL_law 341 = .ok (.iconst 1, 1) := by decide +kernel
theorem dL_law_342 : decode cL_law 342 = .ok (.iadd, 1) := by decide +kernel
theorem dL_law_343 : decode cL_law 343 = .ok (.iaload, 1) := by decide +kernel
theorem dL_law_344 : decode cL_law 344 = .ok (.aload_n 0, 1) := by decide +kernel
theorem dL_law_345 : decode cL_law 345 = .ok (.iload_n 3, 1) := by decide +kernel
theorem dL_law_346 : decode cL_law 346 = .ok (.iconst 2, 1) := by decide +kernel
theorem dL_law_347 : decode cL_law 347 = .ok (.iadd, 1) := by decide +kernel
theorem dL_law_348 : decode cL_law 348 = .ok (.iaload, 1) := by decide +kernel
theorem dL_law_349 : decode cL_law 349 = .ok (.invokevirtual 50, 3) := by decide +kernel
theorem dL_law_352 : decode cL_law 352 = .ok (.aload_n 2, 1) := by decide +kernel
theorem dL_law_353 : decode cL_law 353 = .ok (.aload_n 0, 1) := by decide +kernel
theorem dL_law_354 : decode cL_law 354 = .ok (.iload_n 3, 1) := by decide +kernel
theorem dL_law_355 : decode cL_law 355 = .ok (.iconst 1, 1) := by decide +kernel
theorem dL_law_356 : decode cL_law 356 = .ok (.iadd, 1) := by decide +kernel
theorem dL_law_357 : decode cL_law 357 = .ok (.iaload, 1) := by decide +kernel
theorem dL_law_358 : decode cL_law 358 = .ok (.aload_n 0, 1) := by decide +kernel
theorem dL_law_359 : decode cL_law 359 = .ok (.iload_n 3, 1) := by decide +kernel
theorem dL_law_360 : decode cL_law 360 = .ok (.iconst 2, 1) := by decide +kernel
theorem dL_law_361 : decode cL_law 361 = .ok (.iadd, 1) := by decide +kernel
theorem dL_law_362 : decode cL_law 362 = .ok (.iaload, 1) := by decide +kernel
theorem dL_law_363 : decode cL_law 363 = .ok (.invokevirtual 54, 3) := by decide +kernel
theorem dL_law_366 : decode cL_law 366 = .ok (.if_icmp .eq 51, 3) := by decide +kernel
theorem dL_law_369 : decode cL_law 369 = .ok (.iconst 0, 1) := by decide +kernel
theorem dL_law_370 : decode cL_law 370 = .ok (.ireturn, 1) := by decide +kernel
theorem dL_law_371 : decode cL_law 371 = .ok (.aload_n 1, 1) := by decide +kernel
theorem dL_law_372 : decode cL_law 372 = .ok (.aload_n 0, 1) := by decide +kernel
theorem dL_law_373 : decode cL_law 373 = .ok (.iload_n 3, 1) := by decide +kernel
theorem dL_law_374 : decode cL_law 374 = .ok (.iconst 1, 1) := by decide +kernel
theorem dL_law_375 : decode cL_law 375 = .ok (.iadd, 1) := by decide +kernel
theorem dL_law_376 : decode cL_law 376 = .ok (.iaload, 1) := by decide +kernel
theorem dL_law_377 : decode cL_law 377 = .ok (.invokevirtual 55, 3) := by decide +kernel
theorem dL_law_380 : decode cL_law 380 = .ok (.aload_n 2, 1) := by decide +kernel
theorem dL_law_381 : decode cL_law 381 = .ok (.aload_n 0, 1) := by decide +kernel
theorem dL_law_382 : decode cL_law 382 = .ok (.iload_n 3, 1) := by decide +kernel
theorem dL_law_383 : decode cL_law 383 = .ok (.iconst 1, 1) := by decide +kernel
theorem dL_law_384 : decode cL_law 384 = .ok (.iadd, 1) := by decide +kernel
theorem dL_law_385 : decode cL_law 385 = .ok (.iaload, 1) := by decide +kernel
theorem dL_law_386 : decode cL_law 386 = .ok (.invokevirtual 58, 3) := by decide +kernel
theorem dL_law_389 : decode cL_law 389 = .ok (.if_icmp .eq 28, 3) := by decide +kernel
theorem dL_law_392 : decode cL_law 392 = .ok (.iconst 0, 1) := by decide +kernel
theorem dL_law_393 : decode cL_law 393 = .ok (.ireturn, 1) := by decide +kernel
theorem dL_law_394 : decode cL_law 394 = .ok (.aload_n 1, 1) := by decide +kernel
theorem dL_law_395 : decode cL_law 395 = .ok (.aload_n 0, 1) := by decide +kernel
theorem dL_law_396 : decode cL_law 396 = .ok (.iload_n 3, 1) := by decide +kernel
theorem dL_law_397 : decode cL_law 397 = .ok (.iconst 1, 1) := by decide +kernel
theorem dL_law_398 : decode cL_law 398 = .ok (.iadd, 1) := by decide +kernel
theorem dL_law_399 : decode cL_law 399 = .ok (.iaload, 1) := by decide +kernel
theorem dL_law_400 : decode cL_law 400 = .ok (.invokevirtual 59, 3) := by decide +kernel
theorem dL_law_403 : decode cL_law 403 = .ok (.aload_n 2, 1) := by decide +kernel
theorem dL_law_404 : decode cL_law 404 = .ok (.aload_n 0, 1) := by decide +kernel
theorem dL_law_405 : decode cL_law 405 = .ok (.iload_n 3, 1) := by decide +kernel
theorem dL_law_406 : decode cL_law 406 = .ok (.iconst 1, 1) := by decide +kernel
theorem dL_law_407 : decode cL_law 407 = .ok (.iadd, 1) := by decide +kernel
theorem dL_law_408 : decode cL_law 408 = .ok (.iaload, 1) := by decide +kernel
theorem dL_law_409 : decode cL_law 409 = .ok (.invokevirtual 62, 3) := by decide +kernel
theorem dL_law_412 : decode cL_law 412 = .ok (.if_icmp .eq 5, 3) := by decide +kernel
theorem dL_law_415 : decode cL_law 415 = .ok (.iconst 0, 1) := by decide +kernel
theorem dL_law_416 : decode cL_law 416 = .ok (.ireturn, 1) := by decide +kernel
theorem dL_law_417 : decode cL_law 417 = .ok (.iinc 3 5, 3) := by decide +kernel
theorem dL_law_420 : decode cL_law 420 = .ok (.goto (-402), 3) := by decide +kernel
theorem dL_law_423 : decode cL_law 423 = .ok (.iconst 1, 1) := by decide +kernel
theorem dL_law_424 : decode cL_law 424 = .ok (.ireturn, 1) := by decide +kernel
abbrev vwCl : List vw_C := [(RX0, TX0, 4), (RX1, TX1, 4), (RX2, TX2, 6)]
/-! the reference's digest, which the printed names leave out -/
abbrev cX2_digest : ByteArray := prog_4_method_16_code
def yX2_digest : MethodName := ⟨RX2, "digest", "(I)I"⟩
def wsX2_digest : List Cond := .code yX2_digest cX2_digest 5 (some .int) :: ([.fieldLink RX2 19 "RevisionTreeModel" "count" "[I", .fieldLink RX2 9 "RevisionTreeModel" "key" "[I", .fieldLink RX2 13 "RevisionTreeModel" "value" "[I", .fieldLink RX2 16 "RevisionTreeModel" "size" "[I", .methodLink RX2 45 yX2_table, .instanceMethod yX2_table, .selects RX2 yX2_table yX2_table, .initialized RX2, .code yX2_table cX2_table 2 (some .int), .fieldLink RX2 22 "RevisionTreeModel" "reader" "[I", .fieldLink RX2 37 "RevisionTreeModel" "latest" "I"] ++ wsX20)
theorem dX2_digest_0 : decode cX2_digest 0 = .ok (.aload_n 0, 1) := by decide +kernel
theorem dX2_digest_1 : decode cX2_digest 1 = .ok (.iload_n 1, 1) := by decide +kernel
theorem dX2_digest_2 : decode cX2_digest 2 = .ok (.invokevirtual 45, 3) := by decide +kernel
theorem dX2_digest_5 : decode cX2_digest 5 = .ok (.istore_n 2, 1) := by decide +kernel
theorem dX2_digest_6 : decode cX2_digest 6 = .ok (.iload_n 2, 1) := by decide +kernel
theorem dX2_digest_7 : decode cX2_digest 7 = .ok (.ifCond .ge 5, 3) := by decide +kernel
theorem dX2_digest_10 : decode cX2_digest 10 = .ok (.iload_n 2, 1) := by decide +kernel
theorem dX2_digest_11 : decode cX2_digest 11 = .ok (.ireturn, 1) := by decide +kernel
theorem dX2_digest_12 : decode cX2_digest 12 = .ok (.iconst 0, 1) := by decide +kernel
theorem dX2_digest_13 : decode cX2_digest 13 = .ok (.istore_n 3, 1) := by decide +kernel
theorem dX2_digest_14 : decode cX2_digest 14 = .ok (.sipush 400, 3) := by decide +kernel
theorem dX2_digest_17 : decode cX2_digest 17 = .ok (.iload_n 2, 1) := by decide +kernel
theorem dX2_digest_18 : decode cX2_digest 18 = .ok (.imul, 1) := by decide +kernel
theorem dX2_digest_19 : decode cX2_digest 19 = .ok (.istore 4, 2) := by decide +kernel
theorem dX2_digest_21 : decode cX2_digest 21 = .ok (.iload 4, 2) := by decide +kernel
theorem dX2_digest_23 : decode cX2_digest 23 = .ok (.sipush 400, 3) := by decide +kernel
theorem dX2_digest_26 : decode cX2_digest 26 = .ok (.iload_n 2, 1) := by decide +kernel
theorem dX2_digest_27 : decode cX2_digest 27 = .ok (.imul, 1) := by decide +kernel
theorem dX2_digest_28 : decode cX2_digest 28 = .ok (.aload_n 0, 1) := by decide +kernel
theorem dX2_digest_29 : decode cX2_digest 29 = .ok (.getfield 19, 3) := by decide +kernel
theorem dX2_digest_32 : decode cX2_digest 32 = .ok (.iload_n 2, 1) := by decide +kernel
theorem dX2_digest_33 : decode cX2_digest 33 = .ok (.iaload, 1) := by decide +kernel
theorem dX2_digest_34 : decode cX2_digest 34 = .ok (.iadd, 1) := by decide +kernel
theorem dX2_digest_35 : decode cX2_digest 35 = .ok (.if_icmp .ge 43, 3) := by decide +kernel
theorem dX2_digest_38 : decode cX2_digest 38 = .ok (.iload_n 3, 1) := by decide +kernel
theorem dX2_digest_39 : decode cX2_digest 39 = .ok (.bipush 31, 2) := by decide +kernel
theorem dX2_digest_41 : decode cX2_digest 41 = .ok (.imul, 1) := by decide +kernel
theorem dX2_digest_42 : decode cX2_digest 42 = .ok (.aload_n 0, 1) := by decide +kernel
theorem dX2_digest_43 : decode cX2_digest 43 = .ok (.getfield 9, 3) := by decide +kernel
theorem dX2_digest_46 : decode cX2_digest 46 = .ok (.iload 4, 2) := by decide +kernel
theorem dX2_digest_48 : decode cX2_digest 48 = .ok (.iaload, 1) := by decide +kernel
theorem dX2_digest_49 : decode cX2_digest 49 = .ok (.iadd, 1) := by decide +kernel
theorem dX2_digest_50 : decode cX2_digest 50 = .ok (.istore_n 3, 1) := by decide +kernel
theorem dX2_digest_51 : decode cX2_digest 51 = .ok (.iload_n 3, 1) := by decide +kernel
theorem dX2_digest_52 : decode cX2_digest 52 = .ok (.bipush 31, 2) := by decide +kernel
theorem dX2_digest_54 : decode cX2_digest 54 = .ok (.imul, 1) := by decide +kernel
theorem dX2_digest_55 : decode cX2_digest 55 = .ok (.aload_n 0, 1) := by decide +kernel
theorem dX2_digest_56 : decode cX2_digest 56 = .ok (.getfield 13, 3) := by decide +kernel
theorem dX2_digest_59 : decode cX2_digest 59 = .ok (.iload 4, 2) := by decide +kernel
theorem dX2_digest_61 : decode cX2_digest 61 = .ok (.iaload, 1) := by decide +kernel
theorem dX2_digest_62 : decode cX2_digest 62 = .ok (.iadd, 1) := by decide +kernel
theorem dX2_digest_63 : decode cX2_digest 63 = .ok (.aload_n 0, 1) := by decide +kernel
theorem dX2_digest_64 : decode cX2_digest 64 = .ok (.getfield 16, 3) := by decide +kernel
theorem dX2_digest_67 : decode cX2_digest 67 = .ok (.iload 4, 2) := by decide +kernel
theorem dX2_digest_69 : decode cX2_digest 69 = .ok (.iaload, 1) := by decide +kernel
theorem dX2_digest_70 : decode cX2_digest 70 = .ok (.iadd, 1) := by decide +kernel
theorem dX2_digest_71 : decode cX2_digest 71 = .ok (.istore_n 3, 1) := by decide +kernel
theorem dX2_digest_72 : decode cX2_digest 72 = .ok (.iinc 4 1, 3) := by decide +kernel
theorem dX2_digest_75 : decode cX2_digest 75 = .ok (.goto (-54), 3) := by decide +kernel
theorem dX2_digest_78 : decode cX2_digest 78 = .ok (.iload_n 3, 1) := by decide +kernel
theorem dX2_digest_79 : decode cX2_digest 79 = .ok (.ireturn, 1) := by decide +kernel
set_option maxRecDepth 20000 in
theorem gX2_digest_X2_table : GoodIn wsX2_digest (wsV RX2 45 RX2 yX2_table wsX2_table) := goodIn_p _ [9] rfl (by decide +kernel)
set_option maxRecDepth 20000 in
theorem gL_law_X2_digest : GoodIn lw_tbl (wsV RL 62 RX2 yX2_digest wsX2_digest) := goodIn_p _ [248, 230] (by decide +kernel) (by decide +kernel)
