section
-- ===== PART A: goes FIRST, ahead of the names: the tables' words, and 'selects' of the private methods out of them =====
/-- a private method of a class that the tables say can be made, by its rows of tables_1 -/
def lw_okq (q : MethodName × Nat) : Prop := (q.1.cls ≠ "java/lang/invoke/MethodHandle" ∧ q.1.cls ≠ "java/lang/invoke/VarHandle") ∧ Cond.instantiable q.1.cls q.2 ∈ tables_1 ∧ Cond.privateMethod q.1 ∈ tables_1 ∧ Cond.instanceMethod q.1 ∈ tables_1
theorem lw_p0 : lw_okq (⟨"RevisionTree$Table", "shift", "(II)V"⟩, 4) := ⟨⟨by decide +kernel, by decide +kernel⟩, List.mem_of_getElem? (i := 15) (by decide +kernel), List.mem_of_getElem? (i := 69) (by decide +kernel), List.mem_of_getElem? (i := 70) (by decide +kernel)⟩
theorem lw_p1 : lw_okq (⟨"RevisionTree", "tableOfRevision", "(I)LRevisionTree$Table;"⟩, 4) := ⟨⟨by decide +kernel, by decide +kernel⟩, List.mem_of_getElem? (i := 7) (by decide +kernel), List.mem_of_getElem? (i := 95) (by decide +kernel), List.mem_of_getElem? (i := 96) (by decide +kernel)⟩
theorem lw_p2 : lw_okq (⟨"RevisionTree", "stateOfReader", "(I)I"⟩, 4) := ⟨⟨by decide +kernel, by decide +kernel⟩, List.mem_of_getElem? (i := 7) (by decide +kernel), List.mem_of_getElem? (i := 118) (by decide +kernel), List.mem_of_getElem? (i := 119) (by decide +kernel)⟩
theorem lw_p3 : lw_okq (⟨"RevisionTree", "tableOfReader", "(I)LRevisionTree$Table;"⟩, 4) := ⟨⟨by decide +kernel, by decide +kernel⟩, List.mem_of_getElem? (i := 7) (by decide +kernel), List.mem_of_getElem? (i := 123) (by decide +kernel), List.mem_of_getElem? (i := 124) (by decide +kernel)⟩
theorem lw_p4 : lw_okq (⟨"RevisionTreeModel", "place", "(II)I"⟩, 6) := ⟨⟨by decide +kernel, by decide +kernel⟩, List.mem_of_getElem? (i := 154) (by decide +kernel), List.mem_of_getElem? (i := 183) (by decide +kernel), List.mem_of_getElem? (i := 184) (by decide +kernel)⟩
theorem lw_p5 : lw_okq (⟨"RevisionTreeModel", "is", "(III)Z"⟩, 6) := ⟨⟨by decide +kernel, by decide +kernel⟩, List.mem_of_getElem? (i := 154) (by decide +kernel), List.mem_of_getElem? (i := 187) (by decide +kernel), List.mem_of_getElem? (i := 188) (by decide +kernel)⟩
theorem lw_p6 : lw_okq (⟨"RevisionTreeModel", "copy", "(II)V"⟩, 6) := ⟨⟨by decide +kernel, by decide +kernel⟩, List.mem_of_getElem? (i := 154) (by decide +kernel), List.mem_of_getElem? (i := 204) (by decide +kernel), List.mem_of_getElem? (i := 205) (by decide +kernel)⟩
theorem lw_p7 : lw_okq (⟨"RevisionTreeModel", "table", "(I)I"⟩, 6) := ⟨⟨by decide +kernel, by decide +kernel⟩, List.mem_of_getElem? (i := 154) (by decide +kernel), List.mem_of_getElem? (i := 220) (by decide +kernel), List.mem_of_getElem? (i := 221) (by decide +kernel)⟩
def lw_privs_1 : List (MethodName × Nat) := [(⟨"RevisionTree$Table", "shift", "(II)V"⟩, 4), (⟨"RevisionTree", "tableOfRevision", "(I)LRevisionTree$Table;"⟩, 4), (⟨"RevisionTree", "stateOfReader", "(I)I"⟩, 4), (⟨"RevisionTree", "tableOfReader", "(I)LRevisionTree$Table;"⟩, 4), (⟨"RevisionTreeModel", "place", "(II)I"⟩, 6), (⟨"RevisionTreeModel", "is", "(III)Z"⟩, 6), (⟨"RevisionTreeModel", "copy", "(II)V"⟩, 6), (⟨"RevisionTreeModel", "table", "(I)I"⟩, 6)]
theorem lw_r1 : ∀ q ∈ lw_privs_1, lw_okq q := List.forall_mem_cons.mpr ⟨lw_p0, List.forall_mem_cons.mpr ⟨lw_p1, List.forall_mem_cons.mpr ⟨lw_p2, List.forall_mem_cons.mpr ⟨lw_p3, List.forall_mem_cons.mpr ⟨lw_p4, List.forall_mem_cons.mpr ⟨lw_p5, List.forall_mem_cons.mpr ⟨lw_p6, List.forall_mem_cons.mpr ⟨lw_p7, fun _ h => absurd h List.not_mem_nil⟩⟩⟩⟩⟩⟩⟩⟩
def lw_privs : List (MethodName × Nat) := lw_privs_1
def lw_tbl : List Cond := k2_sels lw_privs ++ tables_1
theorem lw_privs_ok : ∀ q ∈ lw_privs, lw_okq q := lw_r1
end
section
/-! ===== BEGIN words of one list among another's, by their places ===== -/
theorem goodIn_r {big : List Cond} (ws : List Cond) (ps : List Nat) (hp : ws = ps.filterMap (fun i => big[i]?)) (h : ws.all goodWord = true) : GoodIn big ws := by
  intro w hw
  have h1 := List.all_eq_true.mp h w hw
  rw [hp] at hw
  obtain ⟨i, -, hi⟩ := List.mem_filterMap.mp hw
  have hm : w ∈ big := by first | exact List.mem_of_getElem? hi | exact List.getElem?_mem hi
  exact ⟨hm, good_of_word h1⟩
theorem goodIn_app {big a b : List Cond} (ha : GoodIn big a) (hb : GoodIn big b) : GoodIn big (a ++ b) := fun w h => (List.mem_append.mp h).elim (ha w) (hb w)
theorem goodIn_ca {big a b : List Cond} {c : Cond} (ha : GoodIn big (c :: a)) (hb : GoodIn big b) : GoodIn big (c :: (a ++ b)) := fun w h => (List.mem_cons.mp h).elim (fun e => ha w (List.mem_cons.mpr (Or.inl e))) (fun h => (List.mem_append.mp h).elim (fun h => ha w (List.mem_cons.mpr (Or.inr h))) (hb w))
theorem goodIn_sub {big ws : List Cond} (hm : ∀ w ∈ ws, w ∈ big) (h : ws.all goodWord = true) : GoodIn big ws := fun w hw => ⟨hm w hw, good_of_word (List.all_eq_true.mp h w hw)⟩
/-! ===== END ===== -/

/-! ===== BEGIN printed: names, fields, word lists, decode rows ===== -/
def RX0 : String := "RevisionTree$Table"
def TX0 : u_T := fun k => match k with
  | 0 => ("RevisionTree$Table", "keys", "[I", true)
  | 1 => ("RevisionTree$Table", "values", "[I", true)
  | 2 => ("RevisionTree$Table", "sizes", "[I", true)
  | _ => ("RevisionTree$Table", "held", "I", false)
def tyX0 : Nat → FieldType := fun k => match k with
  | 0 => .array .int
  | 1 => .array .int
  | 2 => .array .int
  | _ => .int
abbrev wsX00 : List Cond := u_ws RX0 TX0 4
theorem nmX0 : ∀ a, a < 4 → ∀ b, b < 4 → a ≠ b → (TX0 a).2.1 ≠ (TX0 b).2.1 := by decide +kernel
theorem tyX0_ok : ∀ k, k < 4 → parseFieldDescriptor (TX0 k).2.2.1 = some (tyX0 k) := by decide +kernel
abbrev cX0_init : ByteArray := prog_2_method_1_code
def yX0_init : MethodName := ⟨RX0, "<init>", "()V"⟩
abbrev cX0_placeOf : ByteArray := prog_2_method_2_code
def yX0_placeOf : MethodName := ⟨RX0, "placeOf", "(I)I"⟩
abbrev cX0_placeAbove : ByteArray := prog_2_method_3_code
def yX0_placeAbove : MethodName := ⟨RX0, "placeAbove", "(I)I"⟩
abbrev cX0_hasAt : ByteArray := prog_2_method_4_code
def yX0_hasAt : MethodName := ⟨RX0, "hasAt", "(II)Z"⟩
abbrev cX0_enter : ByteArray := prog_2_method_5_code
def yX0_enter : MethodName := ⟨RX0, "enter", "(III)I"⟩
abbrev cX0_drop : ByteArray := prog_2_method_6_code
def yX0_drop : MethodName := ⟨RX0, "drop", "(I)Z"⟩
abbrev cX0_shift : ByteArray := prog_2_method_7_code
def yX0_shift : MethodName := ⟨RX0, "shift", "(II)V"⟩
abbrev cX0_copyFrom : ByteArray := prog_2_method_8_code
def yX0_copyFrom : MethodName := ⟨RX0, "copyFrom", "(LRevisionTree$Table;)V"⟩
abbrev cX0_fold : ByteArray := prog_2_method_9_code
def yX0_fold : MethodName := ⟨RX0, "fold", "()I"⟩
def RX1 : String := "RevisionTree"
def TX1 : u_T := fun k => match k with
  | 0 => ("RevisionTree", "worked", "LRevisionTree$Table;", true)
  | 1 => ("RevisionTree", "kept", "[LRevisionTree$Table;", true)
  | 2 => ("RevisionTree", "revisionOfReader", "[I", true)
  | _ => ("RevisionTree", "latest", "I", false)
def tyX1 : Nat → FieldType := fun k => match k with
  | 0 => .object "RevisionTree$Table"
  | 1 => .array (.object "RevisionTree$Table")
  | 2 => .array .int
  | _ => .int
abbrev wsX10 : List Cond := u_ws RX1 TX1 4
theorem nmX1 : ∀ a, a < 4 → ∀ b, b < 4 → a ≠ b → (TX1 a).2.1 ≠ (TX1 b).2.1 := by decide +kernel
theorem tyX1_ok : ∀ k, k < 4 → parseFieldDescriptor (TX1 k).2.2.1 = some (tyX1 k) := by decide +kernel
abbrev cX1_init : ByteArray := prog_1_method_1_code
def yX1_init : MethodName := ⟨RX1, "<init>", "()V"⟩
abbrev cX1_put : ByteArray := prog_1_method_2_code
def yX1_put : MethodName := ⟨RX1, "put", "(III)I"⟩
abbrev cX1_some : ByteArray := prog_1_method_3_code
def yX1_some : MethodName := ⟨RX1, "some", "(IIII)I"⟩
abbrev cX1_remove : ByteArray := prog_1_method_4_code
def yX1_remove : MethodName := ⟨RX1, "remove", "(I)I"⟩
abbrev cX1_commit : ByteArray := prog_1_method_5_code
def yX1_commit : MethodName := ⟨RX1, "commit", "(I)I"⟩
abbrev cX1_forget : ByteArray := prog_1_method_6_code
def yX1_forget : MethodName := ⟨RX1, "forget", "()I"⟩
abbrev cX1_open : ByteArray := prog_1_method_7_code
def yX1_open : MethodName := ⟨RX1, "open", "(I)I"⟩
abbrev cX1_get : ByteArray := prog_1_method_8_code
def yX1_get : MethodName := ⟨RX1, "get", "(II)J"⟩
abbrev cX1_next : ByteArray := prog_1_method_9_code
def yX1_next : MethodName := ⟨RX1, "next", "(II)J"⟩
abbrev cX1_size : ByteArray := prog_1_method_10_code
def yX1_size : MethodName := ⟨RX1, "size", "(II)I"⟩
abbrev cX1_count : ByteArray := prog_1_method_11_code
def yX1_count : MethodName := ⟨RX1, "count", "(I)I"⟩
abbrev cX1_digest : ByteArray := prog_1_method_12_code
def yX1_digest : MethodName := ⟨RX1, "digest", "(I)I"⟩
abbrev cX1_sizeInRow : ByteArray := prog_1_method_13_code
def yX1_sizeInRow : MethodName := ⟨RX1, "sizeInRow", "(II)I"⟩
abbrev cX1_stateOfReader : ByteArray := prog_1_method_14_code
def yX1_stateOfReader : MethodName := ⟨RX1, "stateOfReader", "(I)I"⟩
abbrev cX1_tableOfReader : ByteArray := prog_1_method_15_code
def yX1_tableOfReader : MethodName := ⟨RX1, "tableOfReader", "(I)LRevisionTree$Table;"⟩
abbrev cX1_tableOfRevision : ByteArray := prog_1_method_16_code
def yX1_tableOfRevision : MethodName := ⟨RX1, "tableOfRevision", "(I)LRevisionTree$Table;"⟩
def RX2 : String := "RevisionTreeModel"
def TX2 : u_T := fun k => match k with
  | 0 => ("RevisionTreeModel", "key", "[I", true)
  | 1 => ("RevisionTreeModel", "value", "[I", true)
  | 2 => ("RevisionTreeModel", "size", "[I", true)
  | 3 => ("RevisionTreeModel", "count", "[I", true)
  | 4 => ("RevisionTreeModel", "reader", "[I", true)
  | _ => ("RevisionTreeModel", "latest", "I", false)
def tyX2 : Nat → FieldType := fun k => match k with
  | 0 => .array .int
  | 1 => .array .int
  | 2 => .array .int
  | 3 => .array .int
  | 4 => .array .int
  | _ => .int
abbrev wsX20 : List Cond := u_ws RX2 TX2 6
theorem nmX2 : ∀ a, a < 6 → ∀ b, b < 6 → a ≠ b → (TX2 a).2.1 ≠ (TX2 b).2.1 := by decide +kernel
theorem tyX2_ok : ∀ k, k < 6 → parseFieldDescriptor (TX2 k).2.2.1 = some (tyX2 k) := by decide +kernel
abbrev cX2_init : ByteArray := prog_4_method_1_code
def yX2_init : MethodName := ⟨RX2, "<init>", "()V"⟩
abbrev cX2_copy : ByteArray := prog_4_method_2_code
def yX2_copy : MethodName := ⟨RX2, "copy", "(II)V"⟩
abbrev cX2_place : ByteArray := prog_4_method_3_code
def yX2_place : MethodName := ⟨RX2, "place", "(II)I"⟩
abbrev cX2_is : ByteArray := prog_4_method_4_code
def yX2_is : MethodName := ⟨RX2, "is", "(III)Z"⟩
abbrev cX2_put : ByteArray := prog_4_method_5_code
def yX2_put : MethodName := ⟨RX2, "put", "(III)I"⟩
abbrev cX2_some : ByteArray := prog_4_method_6_code
def yX2_some : MethodName := ⟨RX2, "some", "(IIII)I"⟩
abbrev cX2_remove : ByteArray := prog_4_method_7_code
def yX2_remove : MethodName := ⟨RX2, "remove", "(I)I"⟩
abbrev cX2_commit : ByteArray := prog_4_method_8_code
def yX2_commit : MethodName := ⟨RX2, "commit", "(I)I"⟩
abbrev cX2_forget : ByteArray := prog_4_method_9_code
def yX2_forget : MethodName := ⟨RX2, "forget", "()I"⟩
abbrev cX2_open : ByteArray := prog_4_method_10_code
def yX2_open : MethodName := ⟨RX2, "open", "(I)I"⟩
abbrev cX2_table : ByteArray := prog_4_method_11_code
def yX2_table : MethodName := ⟨RX2, "table", "(I)I"⟩
abbrev cX2_get : ByteArray := prog_4_method_12_code
def yX2_get : MethodName := ⟨RX2, "get", "(II)J"⟩
abbrev cX2_next : ByteArray := prog_4_method_13_code
def yX2_next : MethodName := ⟨RX2, "next", "(II)J"⟩
abbrev cX2_size : ByteArray := prog_4_method_14_code
def yX2_size : MethodName := ⟨RX2, "size", "(II)I"⟩
abbrev cX2_count : ByteArray := prog_4_method_15_code
def yX2_count : MethodName := ⟨RX2, "count", "(I)I"⟩
def RJ9 : String := "java/lang/Math"
def TJ9 : u_T := fun k => match k with
  | _ => ("", "", "", false)
def tyJ9 : Nat → FieldType := fun k => match k with
  | _ => .int
abbrev wsJ90 : List Cond := u_ws RJ9 TJ9 0
theorem nmJ9 : ∀ a, a < 0 → ∀ b, b < 0 → a ≠ b → (TJ9 a).2.1 ≠ (TJ9 b).2.1 := by decide +kernel
theorem tyJ9_ok : ∀ k, k < 0 → parseFieldDescriptor (TJ9 k).2.2.1 = some (tyJ9 k) := by decide +kernel
abbrev cJ9_floorMod_7cf53 : ByteArray := prog_5_method_50_code
def yJ9_floorMod_7cf53 : MethodName := ⟨RJ9, "floorMod", "(II)I"⟩
def RJ10 : String := "java/lang/System"
def TJ10 : u_T := fun k => match k with
  | _ => ("", "", "", false)
def tyJ10 : Nat → FieldType := fun k => match k with
  | _ => .int
abbrev wsJ100 : List Cond := u_ws RJ10 TJ10 0
theorem nmJ10 : ∀ a, a < 0 → ∀ b, b < 0 → a ≠ b → (TJ10 a).2.1 ≠ (TJ10 b).2.1 := by decide +kernel
theorem tyJ10_ok : ∀ k, k < 0 → parseFieldDescriptor (TJ10 k).2.2.1 = some (tyJ10 k) := by decide +kernel
def RL : String := "RevisionTreeLaw"
abbrev cL_law : ByteArray := code
def yL_law : MethodName := ⟨RL, "law", "([I)Z"⟩
def wsX0_init : List Cond := .code yX0_init cX0_init 1 none :: ([.methodLink RX0 3 objectInit, .instanceMethod objectInit, .code objectInit ⟨#[0xb1]⟩ 1 none, .arrayClass .int, .fieldLink RX0 9 "RevisionTree$Table" "keys" "[I", .fieldLink RX0 15 "RevisionTree$Table" "values" "[I", .fieldLink RX0 18 "RevisionTree$Table" "sizes" "[I", .fieldLink RX0 21 "RevisionTree$Table" "held" "I"] ++ wsX00)
def wsX0_placeOf : List Cond := .code yX0_placeOf cX0_placeOf 5 (some .int) :: ([.fieldLink RX0 21 "RevisionTree$Table" "held" "I", .fieldLink RX0 9 "RevisionTree$Table" "keys" "[I"] ++ wsX00)
def wsX0_hasAt : List Cond := .code yX0_hasAt cX0_hasAt 3 (some .boolean) :: ([.fieldLink RX0 21 "RevisionTree$Table" "held" "I", .fieldLink RX0 9 "RevisionTree$Table" "keys" "[I"] ++ wsX00)
def wsX0_placeAbove : List Cond := .code yX0_placeAbove cX0_placeAbove 3 (some .int) :: ([.methodLink RX0 25 yX0_placeOf, .instanceMethod yX0_placeOf, .selects RX0 yX0_placeOf yX0_placeOf, .initialized RX0, .code yX0_placeOf cX0_placeOf 5 (some .int), .fieldLink RX0 21 "RevisionTree$Table" "held" "I", .fieldLink RX0 9 "RevisionTree$Table" "keys" "[I", .methodLink RX0 29 yX0_hasAt, .instanceMethod yX0_hasAt, .selects RX0 yX0_hasAt yX0_hasAt, .code yX0_hasAt cX0_hasAt 3 (some .boolean)] ++ wsX00)
def wsX0_shift : List Cond := .code yX0_shift cX0_shift 4 none :: ([.fieldLink RX0 21 "RevisionTree$Table" "held" "I", .fieldLink RX0 9 "RevisionTree$Table" "keys" "[I", .methodLink RX0 37 arraycopyName, .native arraycopyName, .static arraycopyName, .initialized "java/lang/System", .fieldLink RX0 15 "RevisionTree$Table" "values" "[I", .fieldLink RX0 18 "RevisionTree$Table" "sizes" "[I"] ++ wsX00)
def wsX0_enter : List Cond := .code yX0_enter cX0_enter 6 (some .int) :: ([.fieldLink RX0 21 "RevisionTree$Table" "held" "I", .fieldLink RX0 9 "RevisionTree$Table" "keys" "[I", .fieldLink RX0 15 "RevisionTree$Table" "values" "[I", .fieldLink RX0 18 "RevisionTree$Table" "sizes" "[I", .methodLink RX0 25 yX0_placeOf, .instanceMethod yX0_placeOf, .selects RX0 yX0_placeOf yX0_placeOf, .initialized RX0, .code yX0_placeOf cX0_placeOf 5 (some .int), .methodLink RX0 29 yX0_hasAt, .instanceMethod yX0_hasAt, .selects RX0 yX0_hasAt yX0_hasAt, .code yX0_hasAt cX0_hasAt 3 (some .boolean), .methodLink RX0 33 yX0_shift, .instanceMethod yX0_shift, .selects RX0 yX0_shift yX0_shift, .code yX0_shift cX0_shift 4 none, .methodLink RX0 37 arraycopyName, .native arraycopyName, .static arraycopyName, .initialized "java/lang/System"] ++ wsX00)
def wsX0_drop : List Cond := .code yX0_drop cX0_drop 3 (some .boolean) :: ([.fieldLink RX0 21 "RevisionTree$Table" "held" "I", .methodLink RX0 25 yX0_placeOf, .instanceMethod yX0_placeOf, .selects RX0 yX0_placeOf yX0_placeOf, .initialized RX0, .code yX0_placeOf cX0_placeOf 5 (some .int), .fieldLink RX0 9 "RevisionTree$Table" "keys" "[I", .methodLink RX0 29 yX0_hasAt, .instanceMethod yX0_hasAt, .selects RX0 yX0_hasAt yX0_hasAt, .code yX0_hasAt cX0_hasAt 3 (some .boolean), .methodLink RX0 33 yX0_shift, .instanceMethod yX0_shift, .selects RX0 yX0_shift yX0_shift, .code yX0_shift cX0_shift 4 none, .methodLink RX0 37 arraycopyName, .native arraycopyName, .static arraycopyName, .initialized "java/lang/System", .fieldLink RX0 15 "RevisionTree$Table" "values" "[I", .fieldLink RX0 18 "RevisionTree$Table" "sizes" "[I"] ++ wsX00)
def wsX0_copyFrom : List Cond := .code yX0_copyFrom cX0_copyFrom 2 none :: ([.fieldLink RX0 9 "RevisionTree$Table" "keys" "[I", .fieldLink RX0 21 "RevisionTree$Table" "held" "I", .methodLink RX0 37 arraycopyName, .native arraycopyName, .static arraycopyName, .initialized "java/lang/System", .fieldLink RX0 15 "RevisionTree$Table" "values" "[I", .fieldLink RX0 18 "RevisionTree$Table" "sizes" "[I"] ++ wsX00)
def wsX0_fold : List Cond := .code yX0_fold cX0_fold 3 (some .int) :: ([.fieldLink RX0 21 "RevisionTree$Table" "held" "I", .fieldLink RX0 9 "RevisionTree$Table" "keys" "[I", .fieldLink RX0 15 "RevisionTree$Table" "values" "[I", .fieldLink RX0 18 "RevisionTree$Table" "sizes" "[I"] ++ wsX00)
def wsX1_init : List Cond := .code yX1_init cX1_init 2 none :: ([.methodLink RX1 1 objectInit, .instanceMethod objectInit, .code objectInit ⟨#[0xb1]⟩ 1 none, .classLink RX1 7 RX0, .instantiable RX0 4, .initialized RX0, .fieldLink RX1 10 "RevisionTree" "worked" "LRevisionTree$Table;", .fieldLink RX1 16 "RevisionTree" "kept" "[LRevisionTree$Table;", .arrayClass .int, .fieldLink RX1 20 "RevisionTree" "revisionOfReader" "[I", .fieldLink RX1 24 "RevisionTree" "latest" "I", .instanceMethod yX0_init, .code yX0_init cX0_init 1 none, .methodLink RX0 3 objectInit, .fieldLink RX0 9 "RevisionTree$Table" "keys" "[I", .fieldLink RX0 15 "RevisionTree$Table" "values" "[I", .fieldLink RX0 18 "RevisionTree$Table" "sizes" "[I", .fieldLink RX0 21 "RevisionTree$Table" "held" "I"] ++ wsX00 ++ wsX10)
def wsX1_put_r1 : List Cond := [Cond.fieldLink RX1 10 "RevisionTree" "worked" "LRevisionTree$Table;", Cond.methodLink RX1 28 yX0_enter, Cond.instanceMethod yX0_enter, Cond.selects RX0 yX0_enter yX0_enter, Cond.initialized RX0, Cond.code yX0_enter cX0_enter 6 (some .int), Cond.fieldLink RX0 21 "RevisionTree$Table" "held" "I", Cond.fieldLink RX0 9 "RevisionTree$Table" "keys" "[I", Cond.fieldLink RX0 15 "RevisionTree$Table" "values" "[I", Cond.fieldLink RX0 18 "RevisionTree$Table" "sizes" "[I", Cond.methodLink RX0 25 yX0_placeOf, Cond.instanceMethod yX0_placeOf, Cond.selects RX0 yX0_placeOf yX0_placeOf, Cond.code yX0_placeOf cX0_placeOf 5 (some .int), Cond.methodLink RX0 29 yX0_hasAt, Cond.instanceMethod yX0_hasAt, Cond.selects RX0 yX0_hasAt yX0_hasAt, Cond.code yX0_hasAt cX0_hasAt 3 (some .boolean), Cond.methodLink RX0 33 yX0_shift, Cond.instanceMethod yX0_shift, Cond.selects RX0 yX0_shift yX0_shift, Cond.code yX0_shift cX0_shift 4 none, Cond.methodLink RX0 37 arraycopyName, Cond.native arraycopyName]
def wsX1_put_r2 : List Cond := [Cond.static arraycopyName, Cond.initialized "java/lang/System"]
def wsX1_put : List Cond := .code yX1_put cX1_put 4 (some .int) :: ((wsX1_put_r1 ++ wsX1_put_r2) ++ wsX10 ++ wsX00)
def wsX1_sizeInRow : List Cond := .code yX1_sizeInRow cX1_sizeInRow 2 (some .int) :: ([])
def wsX1_some_r1 : List Cond := [Cond.fieldLink RX1 10 "RevisionTree" "worked" "LRevisionTree$Table;", Cond.methodLink RX1 32 yX1_sizeInRow, Cond.static yX1_sizeInRow, Cond.initialized RX1, Cond.code yX1_sizeInRow cX1_sizeInRow 2 (some .int), Cond.methodLink RX1 28 yX0_enter, Cond.instanceMethod yX0_enter, Cond.selects RX0 yX0_enter yX0_enter, Cond.initialized RX0, Cond.code yX0_enter cX0_enter 6 (some .int), Cond.fieldLink RX0 21 "RevisionTree$Table" "held" "I", Cond.fieldLink RX0 9 "RevisionTree$Table" "keys" "[I", Cond.fieldLink RX0 15 "RevisionTree$Table" "values" "[I", Cond.fieldLink RX0 18 "RevisionTree$Table" "sizes" "[I", Cond.methodLink RX0 25 yX0_placeOf, Cond.instanceMethod yX0_placeOf, Cond.selects RX0 yX0_placeOf yX0_placeOf, Cond.code yX0_placeOf cX0_placeOf 5 (some .int), Cond.methodLink RX0 29 yX0_hasAt, Cond.instanceMethod yX0_hasAt, Cond.selects RX0 yX0_hasAt yX0_hasAt, Cond.code yX0_hasAt cX0_hasAt 3 (some .boolean), Cond.methodLink RX0 33 yX0_shift, Cond.instanceMethod yX0_shift]
def wsX1_some_r2 : List Cond := [Cond.selects RX0 yX0_shift yX0_shift, Cond.code yX0_shift cX0_shift 4 none, Cond.methodLink RX0 37 arraycopyName, Cond.native arraycopyName, Cond.static arraycopyName, Cond.initialized "java/lang/System"]
def wsX1_some : List Cond := .code yX1_some cX1_some 7 (some .int) :: ((wsX1_some_r1 ++ wsX1_some_r2) ++ wsX10 ++ wsX00)
def wsX1_remove_r1 : List Cond := [Cond.fieldLink RX1 10 "RevisionTree" "worked" "LRevisionTree$Table;", Cond.fieldLink RX1 40 "RevisionTree$Table" "held" "I", Cond.methodLink RX1 36 yX0_drop, Cond.instanceMethod yX0_drop, Cond.selects RX0 yX0_drop yX0_drop, Cond.initialized RX0, Cond.code yX0_drop cX0_drop 3 (some .boolean), Cond.fieldLink RX0 21 "RevisionTree$Table" "held" "I", Cond.methodLink RX0 25 yX0_placeOf, Cond.instanceMethod yX0_placeOf, Cond.selects RX0 yX0_placeOf yX0_placeOf, Cond.code yX0_placeOf cX0_placeOf 5 (some .int), Cond.fieldLink RX0 9 "RevisionTree$Table" "keys" "[I", Cond.methodLink RX0 29 yX0_hasAt, Cond.instanceMethod yX0_hasAt, Cond.selects RX0 yX0_hasAt yX0_hasAt, Cond.code yX0_hasAt cX0_hasAt 3 (some .boolean), Cond.methodLink RX0 33 yX0_shift, Cond.instanceMethod yX0_shift, Cond.selects RX0 yX0_shift yX0_shift, Cond.code yX0_shift cX0_shift 4 none, Cond.methodLink RX0 37 arraycopyName, Cond.native arraycopyName, Cond.static arraycopyName]
def wsX1_remove_r2 : List Cond := [Cond.initialized "java/lang/System", Cond.fieldLink RX0 15 "RevisionTree$Table" "values" "[I", Cond.fieldLink RX0 18 "RevisionTree$Table" "sizes" "[I"]
def wsX1_remove : List Cond := .code yX1_remove cX1_remove 2 (some .int) :: ((wsX1_remove_r1 ++ wsX1_remove_r2) ++ wsX10 ++ wsX00)
def wsJ9_floorMod_7cf53 : List Cond := .code yJ9_floorMod_7cf53 cJ9_floorMod_7cf53 3 (some .int) :: ([])
def wsX1_tableOfRevision : List Cond := .code yX1_tableOfRevision cX1_tableOfRevision 2 (some (.object "RevisionTree$Table")) :: ([.fieldLink RX1 16 "RevisionTree" "kept" "[LRevisionTree$Table;", .methodLink RX1 85 yJ9_floorMod_7cf53, .static yJ9_floorMod_7cf53, .initialized RJ9, .code yJ9_floorMod_7cf53 cJ9_floorMod_7cf53 3 (some .int)] ++ wsX10)
def wsX1_commit_r1 : List Cond := [Cond.fieldLink RX1 10 "RevisionTree" "worked" "LRevisionTree$Table;", Cond.fieldLink RX1 24 "RevisionTree" "latest" "I", Cond.methodLink RX1 43 yX1_tableOfRevision, Cond.instanceMethod yX1_tableOfRevision, Cond.selects RX1 yX1_tableOfRevision yX1_tableOfRevision, Cond.initialized RX1, Cond.code yX1_tableOfRevision cX1_tableOfRevision 2 (some (.object "RevisionTree$Table")), Cond.fieldLink RX1 16 "RevisionTree" "kept" "[LRevisionTree$Table;", Cond.methodLink RX1 85 yJ9_floorMod_7cf53, Cond.static yJ9_floorMod_7cf53, Cond.initialized RJ9, Cond.code yJ9_floorMod_7cf53 cJ9_floorMod_7cf53 3 (some .int), Cond.methodLink RX1 47 yX0_copyFrom, Cond.instanceMethod yX0_copyFrom, Cond.selects RX0 yX0_copyFrom yX0_copyFrom, Cond.initialized RX0, Cond.code yX0_copyFrom cX0_copyFrom 2 none, Cond.fieldLink RX0 9 "RevisionTree$Table" "keys" "[I", Cond.fieldLink RX0 21 "RevisionTree$Table" "held" "I", Cond.methodLink RX0 37 arraycopyName, Cond.native arraycopyName, Cond.static arraycopyName, Cond.initialized "java/lang/System", Cond.fieldLink RX0 15 "RevisionTree$Table" "values" "[I"]
def wsX1_commit_r2 : List Cond := [Cond.fieldLink RX0 18 "RevisionTree$Table" "sizes" "[I"]
def wsX1_commit : List Cond := .code yX1_commit cX1_commit 2 (some .int) :: ((wsX1_commit_r1 ++ wsX1_commit_r2) ++ wsX10 ++ wsX00)
def wsX1_forget_r1 : List Cond := [Cond.fieldLink RX1 10 "RevisionTree" "worked" "LRevisionTree$Table;", Cond.fieldLink RX1 24 "RevisionTree" "latest" "I", Cond.fieldLink RX1 40 "RevisionTree$Table" "held" "I", Cond.methodLink RX1 43 yX1_tableOfRevision, Cond.instanceMethod yX1_tableOfRevision, Cond.selects RX1 yX1_tableOfRevision yX1_tableOfRevision, Cond.initialized RX1, Cond.code yX1_tableOfRevision cX1_tableOfRevision 2 (some (.object "RevisionTree$Table")), Cond.fieldLink RX1 16 "RevisionTree" "kept" "[LRevisionTree$Table;", Cond.methodLink RX1 85 yJ9_floorMod_7cf53, Cond.static yJ9_floorMod_7cf53, Cond.initialized RJ9, Cond.code yJ9_floorMod_7cf53 cJ9_floorMod_7cf53 3 (some .int), Cond.methodLink RX1 47 yX0_copyFrom, Cond.instanceMethod yX0_copyFrom, Cond.selects RX0 yX0_copyFrom yX0_copyFrom, Cond.initialized RX0, Cond.code yX0_copyFrom cX0_copyFrom 2 none, Cond.fieldLink RX0 9 "RevisionTree$Table" "keys" "[I", Cond.fieldLink RX0 21 "RevisionTree$Table" "held" "I", Cond.methodLink RX0 37 arraycopyName, Cond.native arraycopyName, Cond.static arraycopyName, Cond.initialized "java/lang/System"]
def wsX1_forget_r2 : List Cond := [Cond.fieldLink RX0 15 "RevisionTree$Table" "values" "[I", Cond.fieldLink RX0 18 "RevisionTree$Table" "sizes" "[I"]
def wsX1_forget : List Cond := .code yX1_forget cX1_forget 1 (some .int) :: ((wsX1_forget_r1 ++ wsX1_forget_r2) ++ wsX10 ++ wsX00)
def wsX1_open : List Cond := .code yX1_open cX1_open 2 (some .int) :: ([.fieldLink RX1 20 "RevisionTree" "revisionOfReader" "[I", .fieldLink RX1 24 "RevisionTree" "latest" "I"] ++ wsX10)
def wsX1_stateOfReader : List Cond := .code yX1_stateOfReader cX1_stateOfReader 2 (some .int) :: ([.fieldLink RX1 24 "RevisionTree" "latest" "I", .fieldLink RX1 20 "RevisionTree" "revisionOfReader" "[I"] ++ wsX10)
def wsX1_tableOfReader : List Cond := .code yX1_tableOfReader cX1_tableOfReader 2 (some (.object "RevisionTree$Table")) :: ([.fieldLink RX1 10 "RevisionTree" "worked" "LRevisionTree$Table;", .fieldLink RX1 20 "RevisionTree" "revisionOfReader" "[I", .methodLink RX1 43 yX1_tableOfRevision, .instanceMethod yX1_tableOfRevision, .selects RX1 yX1_tableOfRevision yX1_tableOfRevision, .initialized RX1, .code yX1_tableOfRevision cX1_tableOfRevision 2 (some (.object "RevisionTree$Table")), .fieldLink RX1 16 "RevisionTree" "kept" "[LRevisionTree$Table;", .methodLink RX1 85 yJ9_floorMod_7cf53, .static yJ9_floorMod_7cf53, .initialized RJ9, .code yJ9_floorMod_7cf53 cJ9_floorMod_7cf53 3 (some .int)] ++ wsX10)
def wsX1_get_r1 : List Cond := [Cond.constantLong RX1 55 (1099511627776), Cond.fieldLink RX1 67 "RevisionTree$Table" "values" "[I", Cond.constantLong RX1 70 (1099511627774), Cond.methodLink RX1 51 yX1_stateOfReader, Cond.instanceMethod yX1_stateOfReader, Cond.selects RX1 yX1_stateOfReader yX1_stateOfReader, Cond.initialized RX1, Cond.code yX1_stateOfReader cX1_stateOfReader 2 (some .int), Cond.fieldLink RX1 24 "RevisionTree" "latest" "I", Cond.fieldLink RX1 20 "RevisionTree" "revisionOfReader" "[I", Cond.methodLink RX1 57 yX1_tableOfReader, Cond.instanceMethod yX1_tableOfReader, Cond.selects RX1 yX1_tableOfReader yX1_tableOfReader, Cond.code yX1_tableOfReader cX1_tableOfReader 2 (some (.object "RevisionTree$Table")), Cond.fieldLink RX1 10 "RevisionTree" "worked" "LRevisionTree$Table;", Cond.methodLink RX1 43 yX1_tableOfRevision, Cond.instanceMethod yX1_tableOfRevision, Cond.selects RX1 yX1_tableOfRevision yX1_tableOfRevision, Cond.code yX1_tableOfRevision cX1_tableOfRevision 2 (some (.object "RevisionTree$Table")), Cond.fieldLink RX1 16 "RevisionTree" "kept" "[LRevisionTree$Table;", Cond.methodLink RX1 85 yJ9_floorMod_7cf53, Cond.static yJ9_floorMod_7cf53, Cond.initialized RJ9, Cond.code yJ9_floorMod_7cf53 cJ9_floorMod_7cf53 3 (some .int)]
def wsX1_get_r2 : List Cond := [Cond.methodLink RX1 60 yX0_placeOf, Cond.instanceMethod yX0_placeOf, Cond.selects RX0 yX0_placeOf yX0_placeOf, Cond.initialized RX0, Cond.code yX0_placeOf cX0_placeOf 5 (some .int), Cond.fieldLink RX0 21 "RevisionTree$Table" "held" "I", Cond.fieldLink RX0 9 "RevisionTree$Table" "keys" "[I", Cond.methodLink RX1 63 yX0_hasAt, Cond.instanceMethod yX0_hasAt, Cond.selects RX0 yX0_hasAt yX0_hasAt, Cond.code yX0_hasAt cX0_hasAt 3 (some .boolean)]
def wsX1_get : List Cond := .code yX1_get cX1_get 6 (some .long) :: ((wsX1_get_r1 ++ wsX1_get_r2) ++ wsX00 ++ wsX10)
def wsX1_next_r1 : List Cond := [Cond.constantLong RX1 55 (1099511627776), Cond.fieldLink RX1 40 "RevisionTree$Table" "held" "I", Cond.fieldLink RX1 75 "RevisionTree$Table" "keys" "[I", Cond.constantLong RX1 70 (1099511627774), Cond.methodLink RX1 51 yX1_stateOfReader, Cond.instanceMethod yX1_stateOfReader, Cond.selects RX1 yX1_stateOfReader yX1_stateOfReader, Cond.initialized RX1, Cond.code yX1_stateOfReader cX1_stateOfReader 2 (some .int), Cond.fieldLink RX1 24 "RevisionTree" "latest" "I", Cond.fieldLink RX1 20 "RevisionTree" "revisionOfReader" "[I", Cond.methodLink RX1 57 yX1_tableOfReader, Cond.instanceMethod yX1_tableOfReader, Cond.selects RX1 yX1_tableOfReader yX1_tableOfReader, Cond.code yX1_tableOfReader cX1_tableOfReader 2 (some (.object "RevisionTree$Table")), Cond.fieldLink RX1 10 "RevisionTree" "worked" "LRevisionTree$Table;", Cond.methodLink RX1 43 yX1_tableOfRevision, Cond.instanceMethod yX1_tableOfRevision, Cond.selects RX1 yX1_tableOfRevision yX1_tableOfRevision, Cond.code yX1_tableOfRevision cX1_tableOfRevision 2 (some (.object "RevisionTree$Table")), Cond.fieldLink RX1 16 "RevisionTree" "kept" "[LRevisionTree$Table;", Cond.methodLink RX1 85 yJ9_floorMod_7cf53, Cond.static yJ9_floorMod_7cf53, Cond.initialized RJ9]
def wsX1_next_r2 : List Cond := [Cond.code yJ9_floorMod_7cf53 cJ9_floorMod_7cf53 3 (some .int), Cond.methodLink RX1 72 yX0_placeAbove, Cond.instanceMethod yX0_placeAbove, Cond.selects RX0 yX0_placeAbove yX0_placeAbove, Cond.initialized RX0, Cond.code yX0_placeAbove cX0_placeAbove 3 (some .int), Cond.methodLink RX0 25 yX0_placeOf, Cond.instanceMethod yX0_placeOf, Cond.selects RX0 yX0_placeOf yX0_placeOf, Cond.code yX0_placeOf cX0_placeOf 5 (some .int), Cond.fieldLink RX0 21 "RevisionTree$Table" "held" "I", Cond.fieldLink RX0 9 "RevisionTree$Table" "keys" "[I", Cond.methodLink RX0 29 yX0_hasAt, Cond.instanceMethod yX0_hasAt, Cond.selects RX0 yX0_hasAt yX0_hasAt, Cond.code yX0_hasAt cX0_hasAt 3 (some .boolean)]
def wsX1_next : List Cond := .code yX1_next cX1_next 6 (some .long) :: ((wsX1_next_r1 ++ wsX1_next_r2) ++ wsX00 ++ wsX10)
def wsX1_size_r1 : List Cond := [Cond.fieldLink RX1 78 "RevisionTree$Table" "sizes" "[I", Cond.methodLink RX1 51 yX1_stateOfReader, Cond.instanceMethod yX1_stateOfReader, Cond.selects RX1 yX1_stateOfReader yX1_stateOfReader, Cond.initialized RX1, Cond.code yX1_stateOfReader cX1_stateOfReader 2 (some .int), Cond.fieldLink RX1 24 "RevisionTree" "latest" "I", Cond.fieldLink RX1 20 "RevisionTree" "revisionOfReader" "[I", Cond.methodLink RX1 57 yX1_tableOfReader, Cond.instanceMethod yX1_tableOfReader, Cond.selects RX1 yX1_tableOfReader yX1_tableOfReader, Cond.code yX1_tableOfReader cX1_tableOfReader 2 (some (.object "RevisionTree$Table")), Cond.fieldLink RX1 10 "RevisionTree" "worked" "LRevisionTree$Table;", Cond.methodLink RX1 43 yX1_tableOfRevision, Cond.instanceMethod yX1_tableOfRevision, Cond.selects RX1 yX1_tableOfRevision yX1_tableOfRevision, Cond.code yX1_tableOfRevision cX1_tableOfRevision 2 (some (.object "RevisionTree$Table")), Cond.fieldLink RX1 16 "RevisionTree" "kept" "[LRevisionTree$Table;", Cond.methodLink RX1 85 yJ9_floorMod_7cf53, Cond.static yJ9_floorMod_7cf53, Cond.initialized RJ9, Cond.code yJ9_floorMod_7cf53 cJ9_floorMod_7cf53 3 (some .int), Cond.methodLink RX1 60 yX0_placeOf, Cond.instanceMethod yX0_placeOf]
def wsX1_size_r2 : List Cond := [Cond.selects RX0 yX0_placeOf yX0_placeOf, Cond.initialized RX0, Cond.code yX0_placeOf cX0_placeOf 5 (some .int), Cond.fieldLink RX0 21 "RevisionTree$Table" "held" "I", Cond.fieldLink RX0 9 "RevisionTree$Table" "keys" "[I", Cond.methodLink RX1 63 yX0_hasAt, Cond.instanceMethod yX0_hasAt, Cond.selects RX0 yX0_hasAt yX0_hasAt, Cond.code yX0_hasAt cX0_hasAt 3 (some .boolean)]
def wsX1_size : List Cond := .code yX1_size cX1_size 6 (some .int) :: ((wsX1_size_r1 ++ wsX1_size_r2) ++ wsX00 ++ wsX10)
def wsX1_count : List Cond := .code yX1_count cX1_count 3 (some .int) :: ([.fieldLink RX1 40 "RevisionTree$Table" "held" "I", .methodLink RX1 51 yX1_stateOfReader, .instanceMethod yX1_stateOfReader, .selects RX1 yX1_stateOfReader yX1_stateOfReader, .initialized RX1, .code yX1_stateOfReader cX1_stateOfReader 2 (some .int), .fieldLink RX1 24 "RevisionTree" "latest" "I", .fieldLink RX1 20 "RevisionTree" "revisionOfReader" "[I", .methodLink RX1 57 yX1_tableOfReader, .instanceMethod yX1_tableOfReader, .selects RX1 yX1_tableOfReader yX1_tableOfReader, .code yX1_tableOfReader cX1_tableOfReader 2 (some (.object "RevisionTree$Table")), .fieldLink RX1 10 "RevisionTree" "worked" "LRevisionTree$Table;", .methodLink RX1 43 yX1_tableOfRevision, .instanceMethod yX1_tableOfRevision, .selects RX1 yX1_tableOfRevision yX1_tableOfRevision, .code yX1_tableOfRevision cX1_tableOfRevision 2 (some (.object "RevisionTree$Table")), .fieldLink RX1 16 "RevisionTree" "kept" "[LRevisionTree$Table;", .methodLink RX1 85 yJ9_floorMod_7cf53, .static yJ9_floorMod_7cf53, .initialized RJ9, .code yJ9_floorMod_7cf53 cJ9_floorMod_7cf53 3 (some .int)] ++ wsX00 ++ wsX10)
def wsX1_digest_r1 : List Cond := [Cond.methodLink RX1 51 yX1_stateOfReader, Cond.instanceMethod yX1_stateOfReader, Cond.selects RX1 yX1_stateOfReader yX1_stateOfReader, Cond.initialized RX1, Cond.code yX1_stateOfReader cX1_stateOfReader 2 (some .int), Cond.fieldLink RX1 24 "RevisionTree" "latest" "I", Cond.fieldLink RX1 20 "RevisionTree" "revisionOfReader" "[I", Cond.methodLink RX1 57 yX1_tableOfReader, Cond.instanceMethod yX1_tableOfReader, Cond.selects RX1 yX1_tableOfReader yX1_tableOfReader, Cond.code yX1_tableOfReader cX1_tableOfReader 2 (some (.object "RevisionTree$Table")), Cond.fieldLink RX1 10 "RevisionTree" "worked" "LRevisionTree$Table;", Cond.methodLink RX1 43 yX1_tableOfRevision, Cond.instanceMethod yX1_tableOfRevision, Cond.selects RX1 yX1_tableOfRevision yX1_tableOfRevision, Cond.code yX1_tableOfRevision cX1_tableOfRevision 2 (some (.object "RevisionTree$Table")), Cond.fieldLink RX1 16 "RevisionTree" "kept" "[LRevisionTree$Table;", Cond.methodLink RX1 85 yJ9_floorMod_7cf53, Cond.static yJ9_floorMod_7cf53, Cond.initialized RJ9, Cond.code yJ9_floorMod_7cf53 cJ9_floorMod_7cf53 3 (some .int), Cond.methodLink RX1 81 yX0_fold, Cond.instanceMethod yX0_fold, Cond.selects RX0 yX0_fold yX0_fold]
def wsX1_digest_r2 : List Cond := [Cond.initialized RX0, Cond.code yX0_fold cX0_fold 3 (some .int), Cond.fieldLink RX0 21 "RevisionTree$Table" "held" "I", Cond.fieldLink RX0 9 "RevisionTree$Table" "keys" "[I", Cond.fieldLink RX0 15 "RevisionTree$Table" "values" "[I", Cond.fieldLink RX0 18 "RevisionTree$Table" "sizes" "[I"]
def wsX1_digest : List Cond := .code yX1_digest cX1_digest 3 (some .int) :: ((wsX1_digest_r1 ++ wsX1_digest_r2) ++ wsX10 ++ wsX00)
def wsX2_init : List Cond := .code yX2_init cX2_init 1 none :: ([.methodLink RX2 1 objectInit, .instanceMethod objectInit, .code objectInit ⟨#[0xb1]⟩ 1 none, .arrayClass .int, .fieldLink RX2 9 "RevisionTreeModel" "key" "[I", .fieldLink RX2 13 "RevisionTreeModel" "value" "[I", .fieldLink RX2 16 "RevisionTreeModel" "size" "[I", .fieldLink RX2 19 "RevisionTreeModel" "count" "[I", .fieldLink RX2 22 "RevisionTreeModel" "reader" "[I"] ++ wsX20)
def wsX2_copy : List Cond := .code yX2_copy cX2_copy 4 none :: ([.fieldLink RX2 19 "RevisionTreeModel" "count" "[I", .fieldLink RX2 9 "RevisionTreeModel" "key" "[I", .fieldLink RX2 13 "RevisionTreeModel" "value" "[I", .fieldLink RX2 16 "RevisionTreeModel" "size" "[I"] ++ wsX20)
def wsX2_place : List Cond := .code yX2_place cX2_place 4 (some .int) :: ([.fieldLink RX2 19 "RevisionTreeModel" "count" "[I", .fieldLink RX2 9 "RevisionTreeModel" "key" "[I"] ++ wsX20)
def wsX2_is : List Cond := .code yX2_is cX2_is 4 (some .boolean) :: ([.fieldLink RX2 19 "RevisionTreeModel" "count" "[I", .fieldLink RX2 9 "RevisionTreeModel" "key" "[I"] ++ wsX20)
def wsX2_put : List Cond := .code yX2_put cX2_put 7 (some .int) :: ([.fieldLink RX2 19 "RevisionTreeModel" "count" "[I", .fieldLink RX2 9 "RevisionTreeModel" "key" "[I", .fieldLink RX2 13 "RevisionTreeModel" "value" "[I", .fieldLink RX2 16 "RevisionTreeModel" "size" "[I", .methodLink RX2 25 yX2_place, .instanceMethod yX2_place, .selects RX2 yX2_place yX2_place, .initialized RX2, .code yX2_place cX2_place 4 (some .int), .methodLink RX2 29 yX2_is, .instanceMethod yX2_is, .selects RX2 yX2_is yX2_is, .code yX2_is cX2_is 4 (some .boolean)] ++ wsX20)
def wsX2_some : List Cond := .code yX2_some cX2_some 7 (some .int) :: ([.methodLink RX2 33 yX2_put, .instanceMethod yX2_put, .selects RX2 yX2_put yX2_put, .initialized RX2, .code yX2_put cX2_put 7 (some .int), .fieldLink RX2 19 "RevisionTreeModel" "count" "[I", .fieldLink RX2 9 "RevisionTreeModel" "key" "[I", .fieldLink RX2 13 "RevisionTreeModel" "value" "[I", .fieldLink RX2 16 "RevisionTreeModel" "size" "[I", .methodLink RX2 25 yX2_place, .instanceMethod yX2_place, .selects RX2 yX2_place yX2_place, .code yX2_place cX2_place 4 (some .int), .methodLink RX2 29 yX2_is, .instanceMethod yX2_is, .selects RX2 yX2_is yX2_is, .code yX2_is cX2_is 4 (some .boolean)] ++ wsX20)
def wsX2_remove : List Cond := .code yX2_remove cX2_remove 4 (some .int) :: ([.fieldLink RX2 19 "RevisionTreeModel" "count" "[I", .fieldLink RX2 9 "RevisionTreeModel" "key" "[I", .fieldLink RX2 13 "RevisionTreeModel" "value" "[I", .fieldLink RX2 16 "RevisionTreeModel" "size" "[I", .methodLink RX2 25 yX2_place, .instanceMethod yX2_place, .selects RX2 yX2_place yX2_place, .initialized RX2, .code yX2_place cX2_place 4 (some .int), .methodLink RX2 29 yX2_is, .instanceMethod yX2_is, .selects RX2 yX2_is yX2_is, .code yX2_is cX2_is 4 (some .boolean)] ++ wsX20)
def wsX2_commit : List Cond := .code yX2_commit cX2_commit 2 (some .int) :: ([.fieldLink RX2 37 "RevisionTreeModel" "latest" "I", .methodLink RX2 41 yX2_copy, .instanceMethod yX2_copy, .selects RX2 yX2_copy yX2_copy, .initialized RX2, .code yX2_copy cX2_copy 4 none, .fieldLink RX2 19 "RevisionTreeModel" "count" "[I", .fieldLink RX2 9 "RevisionTreeModel" "key" "[I", .fieldLink RX2 13 "RevisionTreeModel" "value" "[I", .fieldLink RX2 16 "RevisionTreeModel" "size" "[I"] ++ wsX20)
def wsX2_forget : List Cond := .code yX2_forget cX2_forget 1 (some .int) :: ([.fieldLink RX2 37 "RevisionTreeModel" "latest" "I", .fieldLink RX2 19 "RevisionTreeModel" "count" "[I", .methodLink RX2 41 yX2_copy, .instanceMethod yX2_copy, .selects RX2 yX2_copy yX2_copy, .initialized RX2, .code yX2_copy cX2_copy 4 none, .fieldLink RX2 9 "RevisionTreeModel" "key" "[I", .fieldLink RX2 13 "RevisionTreeModel" "value" "[I", .fieldLink RX2 16 "RevisionTreeModel" "size" "[I"] ++ wsX20)
def wsX2_open : List Cond := .code yX2_open cX2_open 2 (some .int) :: ([.fieldLink RX2 22 "RevisionTreeModel" "reader" "[I", .fieldLink RX2 37 "RevisionTreeModel" "latest" "I"] ++ wsX20)
def wsX2_table : List Cond := .code yX2_table cX2_table 2 (some .int) :: ([.fieldLink RX2 22 "RevisionTreeModel" "reader" "[I", .fieldLink RX2 37 "RevisionTreeModel" "latest" "I"] ++ wsX20)
def wsX2_get : List Cond := .code yX2_get cX2_get 5 (some .long) :: ([.constantLong RX2 49 (1099511627776), .fieldLink RX2 13 "RevisionTreeModel" "value" "[I", .constantLong RX2 51 (1099511627774), .methodLink RX2 45 yX2_table, .instanceMethod yX2_table, .selects RX2 yX2_table yX2_table, .initialized RX2, .code yX2_table cX2_table 2 (some .int), .fieldLink RX2 22 "RevisionTreeModel" "reader" "[I", .fieldLink RX2 37 "RevisionTreeModel" "latest" "I", .methodLink RX2 25 yX2_place, .instanceMethod yX2_place, .selects RX2 yX2_place yX2_place, .code yX2_place cX2_place 4 (some .int), .fieldLink RX2 19 "RevisionTreeModel" "count" "[I", .fieldLink RX2 9 "RevisionTreeModel" "key" "[I", .methodLink RX2 29 yX2_is, .instanceMethod yX2_is, .selects RX2 yX2_is yX2_is, .code yX2_is cX2_is 4 (some .boolean)] ++ wsX20)
def wsX2_next : List Cond := .code yX2_next cX2_next 5 (some .long) :: ([.constantLong RX2 49 (1099511627776), .fieldLink RX2 19 "RevisionTreeModel" "count" "[I", .fieldLink RX2 9 "RevisionTreeModel" "key" "[I", .constantLong RX2 51 (1099511627774), .methodLink RX2 45 yX2_table, .instanceMethod yX2_table, .selects RX2 yX2_table yX2_table, .initialized RX2, .code yX2_table cX2_table 2 (some .int), .fieldLink RX2 22 "RevisionTreeModel" "reader" "[I", .fieldLink RX2 37 "RevisionTreeModel" "latest" "I", .methodLink RX2 25 yX2_place, .instanceMethod yX2_place, .selects RX2 yX2_place yX2_place, .code yX2_place cX2_place 4 (some .int), .methodLink RX2 29 yX2_is, .instanceMethod yX2_is, .selects RX2 yX2_is yX2_is, .code yX2_is cX2_is 4 (some .boolean)] ++ wsX20)
def wsX2_size : List Cond := .code yX2_size cX2_size 5 (some .int) :: ([.fieldLink RX2 16 "RevisionTreeModel" "size" "[I", .methodLink RX2 45 yX2_table, .instanceMethod yX2_table, .selects RX2 yX2_table yX2_table, .initialized RX2, .code yX2_table cX2_table 2 (some .int), .fieldLink RX2 22 "RevisionTreeModel" "reader" "[I", .fieldLink RX2 37 "RevisionTreeModel" "latest" "I", .methodLink RX2 25 yX2_place, .instanceMethod yX2_place, .selects RX2 yX2_place yX2_place, .code yX2_place cX2_place 4 (some .int), .fieldLink RX2 19 "RevisionTreeModel" "count" "[I", .fieldLink RX2 9 "RevisionTreeModel" "key" "[I", .methodLink RX2 29 yX2_is, .instanceMethod yX2_is, .selects RX2 yX2_is yX2_is, .code yX2_is cX2_is 4 (some .boolean)] ++ wsX20)
def wsX2_count : List Cond := .code yX2_count cX2_count 3 (some .int) :: ([.fieldLink RX2 19 "RevisionTreeModel" "count" "[I", .methodLink RX2 45 yX2_table, .instanceMethod yX2_table, .selects RX2 yX2_table yX2_table, .initialized RX2, .code yX2_table cX2_table 2 (some .int), .fieldLink RX2 22 "RevisionTreeModel" "reader" "[I", .fieldLink RX2 37 "RevisionTreeModel" "latest" "I"] ++ wsX20)
def wsL_law_r1 : List Cond := [Cond.classLink RL 7 RX1, Cond.instantiable RX1 4, Cond.initialized RX1, Cond.classLink RL 10 RX2, Cond.instantiable RX2 6, Cond.initialized RX2, Cond.methodLink RL 9 yX1_init, Cond.instanceMethod yX1_init, Cond.code yX1_init cX1_init 2 none, Cond.methodLink RX1 1 objectInit, Cond.instanceMethod objectInit, Cond.code objectInit ⟨#[0xb1]⟩ 1 none, Cond.classLink RX1 7 RX0, Cond.instantiable RX0 4, Cond.initialized RX0, Cond.fieldLink RX1 10 "RevisionTree" "worked" "LRevisionTree$Table;", Cond.fieldLink RX1 16 "RevisionTree" "kept" "[LRevisionTree$Table;", Cond.arrayClass .int, Cond.fieldLink RX1 20 "RevisionTree" "revisionOfReader" "[I", Cond.fieldLink RX1 24 "RevisionTree" "latest" "I", Cond.instanceMethod yX0_init, Cond.code yX0_init cX0_init 1 none, Cond.methodLink RX0 3 objectInit, Cond.fieldLink RX0 9 "RevisionTree$Table" "keys" "[I"]
def wsL_law_r2 : List Cond := [Cond.fieldLink RX0 15 "RevisionTree$Table" "values" "[I", Cond.fieldLink RX0 18 "RevisionTree$Table" "sizes" "[I", Cond.fieldLink RX0 21 "RevisionTree$Table" "held" "I", Cond.methodLink RL 12 yX2_init, Cond.instanceMethod yX2_init, Cond.code yX2_init cX2_init 1 none, Cond.methodLink RX2 1 objectInit, Cond.fieldLink RX2 9 "RevisionTreeModel" "key" "[I", Cond.fieldLink RX2 13 "RevisionTreeModel" "value" "[I", Cond.fieldLink RX2 16 "RevisionTreeModel" "size" "[I", Cond.fieldLink RX2 19 "RevisionTreeModel" "count" "[I", Cond.fieldLink RX2 22 "RevisionTreeModel" "reader" "[I", Cond.methodLink RL 13 yX1_put, Cond.instanceMethod yX1_put, Cond.selects RX1 yX1_put yX1_put, Cond.code yX1_put cX1_put 4 (some .int), Cond.methodLink RX1 28 yX0_enter, Cond.instanceMethod yX0_enter, Cond.selects RX0 yX0_enter yX0_enter, Cond.code yX0_enter cX0_enter 6 (some .int), Cond.methodLink RX0 25 yX0_placeOf, Cond.instanceMethod yX0_placeOf, Cond.selects RX0 yX0_placeOf yX0_placeOf, Cond.code yX0_placeOf cX0_placeOf 5 (some .int)]
def wsL_law_r3 : List Cond := [Cond.methodLink RX0 29 yX0_hasAt, Cond.instanceMethod yX0_hasAt, Cond.selects RX0 yX0_hasAt yX0_hasAt, Cond.code yX0_hasAt cX0_hasAt 3 (some .boolean), Cond.methodLink RX0 33 yX0_shift, Cond.instanceMethod yX0_shift, Cond.selects RX0 yX0_shift yX0_shift, Cond.code yX0_shift cX0_shift 4 none, Cond.methodLink RX0 37 arraycopyName, Cond.native arraycopyName, Cond.static arraycopyName, Cond.initialized "java/lang/System", Cond.methodLink RL 17 yX2_put, Cond.instanceMethod yX2_put, Cond.selects RX2 yX2_put yX2_put, Cond.code yX2_put cX2_put 7 (some .int), Cond.methodLink RX2 25 yX2_place, Cond.instanceMethod yX2_place, Cond.selects RX2 yX2_place yX2_place, Cond.code yX2_place cX2_place 4 (some .int), Cond.methodLink RX2 29 yX2_is, Cond.instanceMethod yX2_is, Cond.selects RX2 yX2_is yX2_is, Cond.code yX2_is cX2_is 4 (some .boolean)]
def wsL_law_r4 : List Cond := [Cond.methodLink RL 18 yX1_some, Cond.instanceMethod yX1_some, Cond.selects RX1 yX1_some yX1_some, Cond.code yX1_some cX1_some 7 (some .int), Cond.methodLink RX1 32 yX1_sizeInRow, Cond.static yX1_sizeInRow, Cond.code yX1_sizeInRow cX1_sizeInRow 2 (some .int), Cond.methodLink RL 22 yX2_some, Cond.instanceMethod yX2_some, Cond.selects RX2 yX2_some yX2_some, Cond.code yX2_some cX2_some 7 (some .int), Cond.methodLink RX2 33 yX2_put, Cond.methodLink RL 23 yX1_remove, Cond.instanceMethod yX1_remove, Cond.selects RX1 yX1_remove yX1_remove, Cond.code yX1_remove cX1_remove 2 (some .int), Cond.fieldLink RX1 40 "RevisionTree$Table" "held" "I", Cond.methodLink RX1 36 yX0_drop, Cond.instanceMethod yX0_drop, Cond.selects RX0 yX0_drop yX0_drop, Cond.code yX0_drop cX0_drop 3 (some .boolean), Cond.methodLink RL 27 yX2_remove, Cond.instanceMethod yX2_remove, Cond.selects RX2 yX2_remove yX2_remove]
def wsL_law_r5 : List Cond := [Cond.code yX2_remove cX2_remove 4 (some .int), Cond.methodLink RL 28 yX1_commit, Cond.instanceMethod yX1_commit, Cond.selects RX1 yX1_commit yX1_commit, Cond.code yX1_commit cX1_commit 2 (some .int), Cond.methodLink RX1 43 yX1_tableOfRevision, Cond.instanceMethod yX1_tableOfRevision, Cond.selects RX1 yX1_tableOfRevision yX1_tableOfRevision, Cond.code yX1_tableOfRevision cX1_tableOfRevision 2 (some (.object "RevisionTree$Table")), Cond.methodLink RX1 85 yJ9_floorMod_7cf53, Cond.static yJ9_floorMod_7cf53, Cond.initialized RJ9, Cond.code yJ9_floorMod_7cf53 cJ9_floorMod_7cf53 3 (some .int), Cond.methodLink RX1 47 yX0_copyFrom, Cond.instanceMethod yX0_copyFrom, Cond.selects RX0 yX0_copyFrom yX0_copyFrom, Cond.code yX0_copyFrom cX0_copyFrom 2 none, Cond.methodLink RL 31 yX2_commit, Cond.instanceMethod yX2_commit, Cond.selects RX2 yX2_commit yX2_commit, Cond.code yX2_commit cX2_commit 2 (some .int), Cond.fieldLink RX2 37 "RevisionTreeModel" "latest" "I", Cond.methodLink RX2 41 yX2_copy, Cond.instanceMethod yX2_copy]
def wsL_law_r6 : List Cond := [Cond.selects RX2 yX2_copy yX2_copy, Cond.code yX2_copy cX2_copy 4 none, Cond.methodLink RL 32 yX1_forget, Cond.instanceMethod yX1_forget, Cond.selects RX1 yX1_forget yX1_forget, Cond.code yX1_forget cX1_forget 1 (some .int), Cond.methodLink RL 36 yX2_forget, Cond.instanceMethod yX2_forget, Cond.selects RX2 yX2_forget yX2_forget, Cond.code yX2_forget cX2_forget 1 (some .int), Cond.methodLink RL 37 yX1_open, Cond.instanceMethod yX1_open, Cond.selects RX1 yX1_open yX1_open, Cond.code yX1_open cX1_open 2 (some .int), Cond.methodLink RL 40 yX2_open, Cond.instanceMethod yX2_open, Cond.selects RX2 yX2_open yX2_open, Cond.code yX2_open cX2_open 2 (some .int), Cond.methodLink RL 41 yX1_get, Cond.instanceMethod yX1_get, Cond.selects RX1 yX1_get yX1_get, Cond.code yX1_get cX1_get 6 (some .long), Cond.constantLong RX1 55 (1099511627776), Cond.fieldLink RX1 67 "RevisionTree$Table" "values" "[I"]
def wsL_law_r7 : List Cond := [Cond.constantLong RX1 70 (1099511627774), Cond.methodLink RX1 51 yX1_stateOfReader, Cond.instanceMethod yX1_stateOfReader, Cond.selects RX1 yX1_stateOfReader yX1_stateOfReader, Cond.code yX1_stateOfReader cX1_stateOfReader 2 (some .int), Cond.methodLink RX1 57 yX1_tableOfReader, Cond.instanceMethod yX1_tableOfReader, Cond.selects RX1 yX1_tableOfReader yX1_tableOfReader, Cond.code yX1_tableOfReader cX1_tableOfReader 2 (some (.object "RevisionTree$Table")), Cond.methodLink RX1 60 yX0_placeOf, Cond.methodLink RX1 63 yX0_hasAt, Cond.methodLink RL 45 yX2_get, Cond.instanceMethod yX2_get, Cond.selects RX2 yX2_get yX2_get, Cond.code yX2_get cX2_get 5 (some .long), Cond.constantLong RX2 49 (1099511627776), Cond.constantLong RX2 51 (1099511627774), Cond.methodLink RX2 45 yX2_table, Cond.instanceMethod yX2_table, Cond.selects RX2 yX2_table yX2_table, Cond.code yX2_table cX2_table 2 (some .int), Cond.methodLink RL 46 yX1_next, Cond.instanceMethod yX1_next, Cond.selects RX1 yX1_next yX1_next]
def wsL_law_r8 : List Cond := [Cond.code yX1_next cX1_next 6 (some .long), Cond.fieldLink RX1 75 "RevisionTree$Table" "keys" "[I", Cond.methodLink RX1 72 yX0_placeAbove, Cond.instanceMethod yX0_placeAbove, Cond.selects RX0 yX0_placeAbove yX0_placeAbove, Cond.code yX0_placeAbove cX0_placeAbove 3 (some .int), Cond.methodLink RL 49 yX2_next, Cond.instanceMethod yX2_next, Cond.selects RX2 yX2_next yX2_next, Cond.code yX2_next cX2_next 5 (some .long), Cond.methodLink RL 50 yX1_size, Cond.instanceMethod yX1_size, Cond.selects RX1 yX1_size yX1_size, Cond.code yX1_size cX1_size 6 (some .int), Cond.fieldLink RX1 78 "RevisionTree$Table" "sizes" "[I", Cond.methodLink RL 54 yX2_size, Cond.instanceMethod yX2_size, Cond.selects RX2 yX2_size yX2_size, Cond.code yX2_size cX2_size 5 (some .int), Cond.methodLink RL 55 yX1_count, Cond.instanceMethod yX1_count, Cond.selects RX1 yX1_count yX1_count, Cond.code yX1_count cX1_count 3 (some .int), Cond.methodLink RL 58 yX2_count]
def wsL_law_r9 : List Cond := [Cond.instanceMethod yX2_count, Cond.selects RX2 yX2_count yX2_count, Cond.code yX2_count cX2_count 3 (some .int), Cond.methodLink RL 59 yX1_digest, Cond.instanceMethod yX1_digest, Cond.selects RX1 yX1_digest yX1_digest, Cond.code yX1_digest cX1_digest 3 (some .int), Cond.methodLink RX1 81 yX0_fold, Cond.instanceMethod yX0_fold, Cond.selects RX0 yX0_fold yX0_fold, Cond.code yX0_fold cX0_fold 3 (some .int)]
def wsL_law : List Cond := (wsL_law_r1 ++ (wsL_law_r2 ++ (wsL_law_r3 ++ (wsL_law_r4 ++ (wsL_law_r5 ++ (wsL_law_r6 ++ (wsL_law_r7 ++ (wsL_law_r8 ++ wsL_law_r9)))))))) ++ wsX10 ++ wsX20 ++ wsX00 ++ ([] : List Cond)
set_option maxRecDepth 20000 in
theorem wsL_law_in : ∀ w ∈ wsL_law, w ∈ lw_tbl := fun w h => (goodIn_p wsL_law [18, 21, 26, 165, 63, 67, 71, 75, 79, 189, 193, 197, 86, 89, 201, 93, 97, 206, 101, 105, 108, 112, 210, 214, 116, 218, 120, 222, 124, 128, 133, 226, 230, 140, 144, 236, 148, 240, 152, 244, 156, 160] (by decide +kernel) (by decide +kernel) w h).1
theorem inlX0 : ∀ w ∈ wsX00, w ∈ wsL_law := fun _ h => List.mem_append_left _ (List.mem_append_right _ h)
theorem inX0 : ∀ w ∈ wsX00, w ∈ lw_tbl := fun w h => wsL_law_in w (inlX0 w h)
theorem inlX1 : ∀ w ∈ wsX10, w ∈ wsL_law := fun _ h => List.mem_append_left _ (List.mem_append_left _ (List.mem_append_left _ (List.mem_append_right _ h)))
theorem inX1 : ∀ w ∈ wsX10, w ∈ lw_tbl := fun w h => wsL_law_in w (inlX1 w h)
theorem inlX2 : ∀ w ∈ wsX20, w ∈ wsL_law := fun _ h => List.mem_append_left _ (List.mem_append_left _ (List.mem_append_right _ h))
theorem inX2 : ∀ w ∈ wsX20, w ∈ lw_tbl := fun w h => wsL_law_in w (inlX2 w h)
theorem inJ9 : ∀ w ∈ wsJ90, w ∈ lw_tbl := by decide +kernel
theorem inJ10 : ∀ w ∈ wsJ100, w ∈ lw_tbl := by decide +kernel
theorem dX0_init_0 : decode cX0_init 0 = .ok (.aload_n 0, 1) := by decide +kernel
theorem dX0_init_1 : decode cX0_init 1 = .ok (.invokespecial 3, 3) := by decide +kernel
theorem dX0_init_4 : decode cX0_init 4 = .ok (.aload_n 0, 1) := by decide +kernel
theorem dX0_init_5 : decode cX0_init 5 = .ok (.sipush 400, 3) := by decide +kernel
theorem dX0_init_8 : decode cX0_init 8 = .ok (.newarray .int, 2) := by decide +kernel
theorem dX0_init_10 : decode cX0_init 10 = .ok (.putfield 9, 3) := by decide +kernel
theorem dX0_init_13 : decode cX0_init 13 = .ok (.aload_n 0, 1) := by decide +kernel
theorem dX0_init_14 : decode cX0_init 14 = .ok (.sipush 400, 3) := by decide +kernel
theorem dX0_init_17 : decode cX0_init 17 = .ok (.newarray .int, 2) := by decide +kernel
theorem dX0_init_19 : decode cX0_init 19 = .ok (.putfield 15, 3) := by decide +kernel
theorem dX0_init_22 : decode cX0_init 22 = .ok (.aload_n 0, 1) := by decide +kernel
theorem dX0_init_23 : decode cX0_init 23 = .ok (.sipush 400, 3) := by decide +kernel
theorem dX0_init_26 : decode cX0_init 26 = .ok (.newarray .int, 2) := by decide +kernel
theorem dX0_init_28 : decode cX0_init 28 = .ok (.putfield 18, 3) := by decide +kernel
theorem dX0_init_31 : decode cX0_init 31 = .ok (.aload_n 0, 1) := by decide +kernel
theorem dX0_init_32 : decode cX0_init 32 = .ok (.iconst 0, 1) := by decide +kernel
theorem dX0_init_33 : decode cX0_init 33 = .ok (.putfield 21, 3) := by decide +kernel
theorem dX0_init_36 : decode cX0_init 36 = .ok (.return_, 1) := by decide +kernel
theorem dX0_placeOf_0 : decode cX0_placeOf 0 = .ok (.iconst 0, 1) := by decide +kernel
theorem dX0_placeOf_1 : decode cX0_placeOf 1 = .ok (.istore_n 2, 1) := by decide +kernel
theorem dX0_placeOf_2 : decode cX0_placeOf 2 = .ok (.aload_n 0, 1) := by decide +kernel
theorem dX0_placeOf_3 : decode cX0_placeOf 3 = .ok (.getfield 21, 3) := by decide +kernel
theorem dX0_placeOf_6 : decode cX0_placeOf 6 = .ok (.istore_n 3, 1) := by decide +kernel
theorem dX0_placeOf_7 : decode cX0_placeOf 7 = .ok (.iload_n 2, 1) := by decide +kernel
theorem dX0_placeOf_8 : decode cX0_placeOf 8 = .ok (.iload_n 3, 1) := by decide +kernel
theorem dX0_placeOf_9 : decode cX0_placeOf 9 = .ok (.if_icmp .ge 35, 3) := by decide +kernel
theorem dX0_placeOf_12 : decode cX0_placeOf 12 = .ok (.iload_n 2, 1) := by decide +kernel
theorem dX0_placeOf_13 : decode cX0_placeOf 13 = .ok (.iload_n 3, 1) := by decide +kernel
theorem dX0_placeOf_14 : decode cX0_placeOf 14 = .ok (.iadd, 1) := by decide +kernel
theorem dX0_placeOf_15 : decode cX0_placeOf 15 = .ok (.iconst 2, 1) := by decide +kernel
theorem dX0_placeOf_16 : decode cX0_placeOf 16 = .ok (.idiv, 1) := by decide +kernel
theorem dX0_placeOf_17 : decode cX0_placeOf 17 = .ok (.istore 4, 2) := by decide +kernel
theorem dX0_placeOf_19 : decode cX0_placeOf 19 = .ok (.aload_n 0, 1) := by decide +kernel
theorem dX0_placeOf_20 : decode cX0_placeOf 20 = .ok (.getfield 9, 3) := by decide +kernel
theorem dX0_placeOf_23 : decode cX0_placeOf 23 = .ok (.iload 4, 2) := by decide +kernel
theorem dX0_placeOf_25 : decode cX0_placeOf 25 = .ok (.iaload, 1) := by decide +kernel
theorem dX0_placeOf_26 : decode cX0_placeOf 26 = .ok (.iload_n 1, 1) := by decide +kernel
theorem dX0_placeOf_27 : decode cX0_placeOf 27 = .ok (.if_icmp .ge 11, 3) := by decide +kernel
theorem dX0_placeOf_30 : decode cX0_placeOf 30 = .ok (.iload 4, 2) := by decide +kernel
theorem dX0_placeOf_32 : decode cX0_placeOf 32 = .ok (.iconst 1, 1) := by decide +kernel
theorem dX0_placeOf_33 : decode cX0_placeOf 33 = .ok (.iadd, 1) := by decide +kernel
theorem dX0_placeOf_34 : decode cX0_placeOf 34 = .ok (.istore_n 2, 1) := by decide +kernel
theorem dX0_placeOf_35 : decode cX0_placeOf 35 = .ok (.goto 6, 3) := by decide +kernel
theorem dX0_placeOf_38 : decode cX0_placeOf 38 = .ok (.iload 4, 2) := by decide +kernel
theorem dX0_placeOf_40 : decode cX0_placeOf 40 = .ok (.istore_n 3, 1) := by decide +kernel
theorem dX0_placeOf_41 : decode cX0_placeOf 41 = .ok (.goto (-34), 3) := by decide +kernel
theorem dX0_placeOf_44 : decode cX0_placeOf 44 = .ok (.iload_n 2, 1) := by decide +kernel
theorem dX0_placeOf_45 : decode cX0_placeOf 45 = .ok (.ireturn, 1) := by decide +kernel
set_option maxRecDepth 20000 in
theorem ggX0_placeAbove_X0_placeOf : GoodIn wsX0_placeAbove wsX0_placeOf := goodIn_r _ [5, 6, 7, 12, 13, 14, 15] (by decide +kernel) (by decide +kernel)
set_option maxRecDepth 20000 in
theorem gX0_placeAbove_X0_placeOf : GoodIn wsX0_placeAbove (wsV RX0 25 RX0 yX0_placeOf wsX0_placeOf) := goodIn_app (goodIn_of _ (by decide +kernel)) ggX0_placeAbove_X0_placeOf
set_option maxRecDepth 20000 in
theorem ggX0_placeAbove_X0_hasAt : GoodIn wsX0_placeAbove wsX0_hasAt := goodIn_r _ [11, 6, 7, 12, 13, 14, 15] (by decide +kernel) (by decide +kernel)
set_option maxRecDepth 20000 in
theorem gX0_placeAbove_X0_hasAt : GoodIn wsX0_placeAbove (wsV RX0 29 RX0 yX0_hasAt wsX0_hasAt) := goodIn_app (goodIn_of _ (by decide +kernel)) ggX0_placeAbove_X0_hasAt
theorem dX0_placeAbove_0 : decode cX0_placeAbove 0 = .ok (.aload_n 0, 1) := by decide +kernel
theorem dX0_placeAbove_1 : decode cX0_placeAbove 1 = .ok (.iload_n 1, 1) := by decide +kernel
theorem dX0_placeAbove_2 : decode cX0_placeAbove 2 = .ok (.invokevirtual 25, 3) := by decide +kernel
theorem dX0_placeAbove_5 : decode cX0_placeAbove 5 = .ok (.istore_n 2, 1) := by decide +kernel
theorem dX0_placeAbove_6 : decode cX0_placeAbove 6 = .ok (.aload_n 0, 1) := by decide +kernel
theorem dX0_placeAbove_7 : decode cX0_placeAbove 7 = .ok (.iload_n 2, 1) := by decide +kernel
theorem dX0_placeAbove_8 : decode cX0_placeAbove 8 = .ok (.iload_n 1, 1) := by decide +kernel
theorem dX0_placeAbove_9 : decode cX0_placeAbove 9 = .ok (.invokevirtual 29, 3) := by decide +kernel
theorem dX0_placeAbove_12 : decode cX0_placeAbove 12 = .ok (.ifCond .eq 9, 3) := by decide +kernel
theorem dX0_placeAbove_15 : decode cX0_placeAbove 15 = .ok (.iload_n 2, 1) := by decide +kernel
theorem dX0_placeAbove_16 : decode cX0_placeAbove 16 = .ok (.iconst 1, 1) := by decide +kernel
theorem dX0_placeAbove_17 : decode cX0_placeAbove 17 = .ok (.iadd, 1) := by decide +kernel
theorem dX0_placeAbove_18 : decode cX0_placeAbove 18 = .ok (.goto 4, 3) := by decide +kernel
theorem dX0_placeAbove_21 : decode cX0_placeAbove 21 = .ok (.iload_n 2, 1) := by decide +kernel
theorem dX0_placeAbove_22 : decode cX0_placeAbove 22 = .ok (.ireturn, 1) := by decide +kernel
theorem dX0_hasAt_0 : decode cX0_hasAt 0 = .ok (.iload_n 1, 1) := by decide +kernel
theorem dX0_hasAt_1 : decode cX0_hasAt 1 = .ok (.aload_n 0, 1) := by decide +kernel
theorem dX0_hasAt_2 : decode cX0_hasAt 2 = .ok (.getfield 21, 3) := by decide +kernel
theorem dX0_hasAt_5 : decode cX0_hasAt 5 = .ok (.if_icmp .ge 17, 3) := by decide +kernel
theorem dX0_hasAt_8 : decode cX0_hasAt 8 = .ok (.aload_n 0, 1) := by decide +kernel
theorem dX0_hasAt_9 : decode cX0_hasAt 9 = .ok (.getfield 9, 3) := by decide +kernel
theorem dX0_hasAt_12 : decode cX0_hasAt 12 = .ok (.iload_n 1, 1) := by decide +kernel
theorem dX0_hasAt_13 : decode cX0_hasAt 13 = .ok (.iaload, 1) := by decide +kernel
theorem dX0_hasAt_14 : decode cX0_hasAt 14 = .ok (.iload_n 2, 1) := by decide +kernel
theorem dX0_hasAt_15 : decode cX0_hasAt 15 = .ok (.if_icmp .ne 7, 3) := by decide +kernel
theorem dX0_hasAt_18 : decode cX0_hasAt 18 = .ok (.iconst 1, 1) := by decide +kernel
theorem dX0_hasAt_19 : decode cX0_hasAt 19 = .ok (.goto 4, 3) := by decide +kernel
theorem dX0_hasAt_22 : decode cX0_hasAt 22 = .ok (.iconst 0, 1) := by decide +kernel
theorem dX0_hasAt_23 : decode cX0_hasAt 23 = .ok (.ireturn, 1) := by decide +kernel
set_option maxRecDepth 20000 in
theorem ggX0_enter_X0_placeOf : GoodIn wsX0_enter wsX0_placeOf := goodIn_r _ [9, 1, 2, 22, 23, 24, 25] (by decide +kernel) (by decide +kernel)
set_option maxRecDepth 20000 in
theorem gX0_enter_X0_placeOf : GoodIn wsX0_enter (wsV RX0 25 RX0 yX0_placeOf wsX0_placeOf) := goodIn_app (goodIn_of _ (by decide +kernel)) ggX0_enter_X0_placeOf
set_option maxRecDepth 20000 in
theorem ggX0_enter_X0_hasAt : GoodIn wsX0_enter wsX0_hasAt := goodIn_r _ [13, 1, 2, 22, 23, 24, 25] (by decide +kernel) (by decide +kernel)
set_option maxRecDepth 20000 in
theorem gX0_enter_X0_hasAt : GoodIn wsX0_enter (wsV RX0 29 RX0 yX0_hasAt wsX0_hasAt) := goodIn_app (goodIn_of _ (by decide +kernel)) ggX0_enter_X0_hasAt
set_option maxRecDepth 20000 in
theorem ggX0_enter_X0_shift : GoodIn wsX0_enter wsX0_shift := goodIn_r _ [17, 1, 2, 18, 19, 20, 21, 3, 4, 22, 23, 24, 25] (by decide +kernel) (by decide +kernel)
set_option maxRecDepth 20000 in
theorem gX0_enter_X0_shift : GoodIn wsX0_enter (wsV RX0 33 RX0 yX0_shift wsX0_shift) := goodIn_app (goodIn_of _ (by decide +kernel)) ggX0_enter_X0_shift
theorem dX0_enter_0 : decode cX0_enter 0 = .ok (.aload_n 0, 1) := by decide +kernel
theorem dX0_enter_1 : decode cX0_enter 1 = .ok (.iload_n 1, 1) := by decide +kernel
theorem dX0_enter_2 : decode cX0_enter 2 = .ok (.invokevirtual 25, 3) := by decide +kernel
theorem dX0_enter_5 : decode cX0_enter 5 = .ok (.istore 4, 2) := by decide +kernel
theorem dX0_enter_7 : decode cX0_enter 7 = .ok (.aload_n 0, 1) := by decide +kernel
theorem dX0_enter_8 : decode cX0_enter 8 = .ok (.iload 4, 2) := by decide +kernel
theorem dX0_enter_10 : decode cX0_enter 10 = .ok (.iload_n 1, 1) := by decide +kernel
theorem dX0_enter_11 : decode cX0_enter 11 = .ok (.invokevirtual 29, 3) := by decide +kernel
theorem dX0_enter_14 : decode cX0_enter 14 = .ok (.ifCond .ne 7, 3) := by decide +kernel
theorem dX0_enter_17 : decode cX0_enter 17 = .ok (.iconst 1, 1) := by decide +kernel
theorem dX0_enter_18 : decode cX0_enter 18 = .ok (.goto 4, 3) := by decide +kernel
theorem dX0_enter_21 : decode cX0_enter 21 = .ok (.iconst 0, 1) := by decide +kernel
theorem dX0_enter_22 : decode cX0_enter 22 = .ok (.istore 5, 2) := by decide +kernel
theorem dX0_enter_24 : decode cX0_enter 24 = .ok (.iload 5, 2) := by decide +kernel
theorem dX0_enter_26 : decode cX0_enter 26 = .ok (.ifCond .eq 44, 3) := by decide +kernel
theorem dX0_enter_29 : decode cX0_enter 29 = .ok (.aload_n 0, 1) := by decide +kernel
theorem dX0_enter_30 : decode cX0_enter 30 = .ok (.getfield 21, 3) := by decide +kernel
theorem dX0_enter_33 : decode cX0_enter 33 = .ok (.sipush 400, 3) := by decide +kernel
theorem dX0_enter_36 : decode cX0_enter 36 = .ok (.if_icmp .lt 6, 3) := by decide +kernel
theorem dX0_enter_39 : decode cX0_enter 39 = .ok (.bipush (-3), 2) := by decide +kernel
theorem dX0_enter_41 : decode cX0_enter 41 = .ok (.ireturn, 1) := by decide +kernel
theorem dX0_enter_42 : decode cX0_enter 42 = .ok (.aload_n 0, 1) := by decide +kernel
theorem dX0_enter_43 : decode cX0_enter 43 = .ok (.iload 4, 2) := by decide +kernel
theorem dX0_enter_45 : decode cX0_enter 45 = .ok (.iload 4, 2) := by decide +kernel
theorem dX0_enter_47 : decode cX0_enter 47 = .ok (.iconst 1, 1) := by decide +kernel
theorem dX0_enter_48 : decode cX0_enter 48 = .ok (.iadd, 1) := by decide +kernel
theorem dX0_enter_49 : decode cX0_enter 49 = .ok (.invokevirtual 33, 3) := by decide +kernel
theorem dX0_enter_52 : decode cX0_enter 52 = .ok (.aload_n 0, 1) := by decide +kernel
theorem dX0_enter_53 : decode cX0_enter 53 = .ok (.dup, 1) := by decide +kernel
theorem dX0_enter_54 : decode cX0_enter 54 = .ok (.getfield 21, 3) := by decide +kernel
theorem dX0_enter_57 : decode cX0_enter 57 = .ok (.iconst 1, 1) := by decide +kernel
theorem dX0_enter_58 : decode cX0_enter 58 = .ok (.iadd, 1) := by decide +kernel
theorem dX0_enter_59 : decode cX0_enter 59 = .ok (.putfield 21, 3) := by decide +kernel
theorem dX0_enter_62 : decode cX0_enter 62 = .ok (.aload_n 0, 1) := by decide +kernel
theorem dX0_enter_63 : decode cX0_enter 63 = .ok (.getfield 9, 3) := by decide +kernel
theorem dX0_enter_66 : decode cX0_enter 66 = .ok (.iload 4, 2) := by decide +kernel
theorem dX0_enter_68 : decode cX0_enter 68 = .ok (.iload_n 1, 1) := by decide +kernel
theorem dX0_enter_69 : decode cX0_enter 69 = .ok (.iastore, 1) := by decide +kernel
theorem dX0_enter_70 : decode cX0_enter 70 = .ok (.aload_n 0, 1) := by decide +kernel
theorem dX0_enter_71 : decode cX0_enter 71 = .ok (.getfield 15, 3) := by decide +kernel
theorem dX0_enter_74 : decode cX0_enter 74 = .ok (.iload 4, 2) := by decide +kernel
theorem dX0_enter_76 : decode cX0_enter 76 = .ok (.iload_n 2, 1) := by decide +kernel
theorem dX0_enter_77 : decode cX0_enter 77 = .ok (.iastore, 1) := by decide +kernel
theorem dX0_enter_78 : decode cX0_enter 78 = .ok (.aload_n 0, 1) := by decide +kernel
theorem dX0_enter_79 : decode cX0_enter 79 = .ok (.getfield 18, 3) := by decide +kernel
theorem dX0_enter_82 : decode cX0_enter 82 = .ok (.iload 4, 2) := by decide +kernel
theorem dX0_enter_84 : decode cX0_enter 84 = .ok (.iload_n 3, 1) := by decide +kernel
theorem dX0_enter_85 : decode cX0_enter 85 = .ok (.iastore, 1) := by decide +kernel
theorem dX0_enter_86 : decode cX0_enter 86 = .ok (.iload 5, 2) := by decide +kernel
theorem dX0_enter_88 : decode cX0_enter 88 = .ok (.ifCond .eq 7, 3) := by decide +kernel
theorem dX0_enter_91 : decode cX0_enter 91 = .ok (.iconst 1, 1) := by decide +kernel
theorem dX0_enter_92 : decode cX0_enter 92 = .ok (.goto 4, 3) := by decide +kernel
theorem dX0_enter_95 : decode cX0_enter 95 = .ok (.iconst 0, 1) := by decide +kernel
theorem dX0_enter_96 : decode cX0_enter 96 = .ok (.ireturn, 1) := by decide +kernel
set_option maxRecDepth 20000 in
theorem ggX0_drop_X0_placeOf : GoodIn wsX0_drop wsX0_placeOf := goodIn_r _ [6, 1, 7, 22, 23, 24, 25] (by decide +kernel) (by decide +kernel)
set_option maxRecDepth 20000 in
theorem gX0_drop_X0_placeOf : GoodIn wsX0_drop (wsV RX0 25 RX0 yX0_placeOf wsX0_placeOf) := goodIn_app (goodIn_of _ (by decide +kernel)) ggX0_drop_X0_placeOf
set_option maxRecDepth 20000 in
theorem ggX0_drop_X0_hasAt : GoodIn wsX0_drop wsX0_hasAt := goodIn_r _ [11, 1, 7, 22, 23, 24, 25] (by decide +kernel) (by decide +kernel)
set_option maxRecDepth 20000 in
theorem gX0_drop_X0_hasAt : GoodIn wsX0_drop (wsV RX0 29 RX0 yX0_hasAt wsX0_hasAt) := goodIn_app (goodIn_of _ (by decide +kernel)) ggX0_drop_X0_hasAt
set_option maxRecDepth 20000 in
theorem ggX0_drop_X0_shift : GoodIn wsX0_drop wsX0_shift := goodIn_r _ [15, 1, 7, 16, 17, 18, 19, 20, 21, 22, 23, 24, 25] (by decide +kernel) (by decide +kernel)
set_option maxRecDepth 20000 in
theorem gX0_drop_X0_shift : GoodIn wsX0_drop (wsV RX0 33 RX0 yX0_shift wsX0_shift) := goodIn_app (goodIn_of _ (by decide +kernel)) ggX0_drop_X0_shift
theorem dX0_drop_0 : decode cX0_drop 0 = .ok (.aload_n 0, 1) := by decide +kernel
theorem dX0_drop_1 : decode cX0_drop 1 = .ok (.iload_n 1, 1) := by decide +kernel
theorem dX0_drop_2 : decode cX0_drop 2 = .ok (.invokevirtual 25, 3) := by decide +kernel
theorem dX0_drop_5 : decode cX0_drop 5 = .ok (.istore_n 2, 1) := by decide +kernel
theorem dX0_drop_6 : decode cX0_drop 6 = .ok (.aload_n 0, 1) := by decide +kernel
theorem dX0_drop_7 : decode cX0_drop 7 = .ok (.iload_n 2, 1) := by decide +kernel
theorem dX0_drop_8 : decode cX0_drop 8 = .ok (.iload_n 1, 1) := by decide +kernel
theorem dX0_drop_9 : decode cX0_drop 9 = .ok (.invokevirtual 29, 3) := by decide +kernel
theorem dX0_drop_12 : decode cX0_drop 12 = .ok (.ifCond .ne 5, 3) := by decide +kernel
theorem dX0_drop_15 : decode cX0_drop 15 = .ok (.iconst 0, 1) := by decide +kernel
theorem dX0_drop_16 : decode cX0_drop 16 = .ok (.ireturn, 1) := by decide +kernel
theorem dX0_drop_17 : decode cX0_drop 17 = .ok (.aload_n 0, 1) := by decide +kernel
theorem dX0_drop_18 : decode cX0_drop 18 = .ok (.iload_n 2, 1) := by decide +kernel
theorem dX0_drop_19 : decode cX0_drop 19 = .ok (.iconst 1, 1) := by decide +kernel
theorem dX0_drop_20 : decode cX0_drop 20 = .ok (.iadd, 1) := by decide +kernel
theorem dX0_drop_21 : decode cX0_drop 21 = .ok (.iload_n 2, 1) := by decide +kernel
theorem dX0_drop_22 : decode cX0_drop 22 = .ok (.invokevirtual 33, 3) := by decide +kernel
theorem dX0_drop_25 : decode cX0_drop 25 = .ok (.aload_n 0, 1) := by decide +kernel
theorem dX0_drop_26 : decode cX0_drop 26 = .ok (.dup, 1) := by decide +kernel
theorem dX0_drop_27 : decode cX0_drop 27 = .ok (.getfield 21, 3) := by decide +kernel
theorem dX0_drop_30 : decode cX0_drop 30 = .ok (.iconst 1, 1) := by decide +kernel
theorem dX0_drop_31 : decode cX0_drop 31 = .ok (.isub, 1) := by decide +kernel
theorem dX0_drop_32 : decode cX0_drop 32 = .ok (.putfield 21, 3) := by decide +kernel
theorem dX0_drop_35 : decode cX0_drop 35 = .ok (.iconst 1, 1) := by decide +kernel
theorem dX0_drop_36 : decode cX0_drop 36 = .ok (.ireturn, 1) := by decide +kernel
theorem dX0_shift_0 : decode cX0_shift 0 = .ok (.aload_n 0, 1) := by decide +kernel
theorem dX0_shift_1 : decode cX0_shift 1 = .ok (.getfield 21, 3) := by decide +kernel
theorem dX0_shift_4 : decode cX0_shift 4 = .ok (.iload_n 1, 1) := by decide +kernel
theorem dX0_shift_5 : decode cX0_shift 5 = .ok (.isub, 1) := by decide +kernel
theorem dX0_shift_6 : decode cX0_shift 6 = .ok (.istore_n 3, 1) := by decide +kernel
theorem dX0_shift_7 : decode cX0_shift 7 = .ok (.aload_n 0, 1) := by decide +kernel
theorem dX0_shift_8 : decode cX0_shift 8 = .ok (.getfield 9, 3) := by decide +kernel
theorem dX0_shift_11 : decode cX0_shift 11 = .ok (.iload_n 1, 1) := by decide +kernel
theorem dX0_shift_12 : decode cX0_shift 12 = .ok (.aload_n 0, 1) := by decide +kernel
theorem dX0_shift_13 : decode cX0_shift 13 = .ok (.getfield 9, 3) := by decide +kernel
theorem dX0_shift_16 : decode cX0_shift 16 = .ok (.iload_n 2, 1) := by decide +kernel
theorem dX0_shift_17 : decode cX0_shift 17 = .ok (.iload_n 3, 1) := by decide +kernel
theorem dX0_shift_18 : decode cX0_shift 18 = .ok (.invokestatic 37, 3) := by decide +kernel
theorem dX0_shift_21 : decode cX0_shift 21 = .ok (.aload_n 0, 1) := by decide +kernel
theorem dX0_shift_22 : decode cX0_shift 22 = .ok (.getfield 15, 3) := by decide +kernel
theorem dX0_shift_25 : decode cX0_shift 25 = .ok (.iload_n 1, 1) := by decide +kernel
theorem dX0_shift_26 : decode cX0_shift 26 = .ok (.aload_n 0, 1) := by decide +kernel
theorem dX0_shift_27 : decode cX0_shift 27 = .ok (.getfield 15, 3) := by decide +kernel
theorem dX0_shift_30 : decode cX0_shift 30 = .ok (.iload_n 2, 1) := by decide +kernel
theorem dX0_shift_31 : decode cX0_shift 31 = .ok (.iload_n 3, 1) := by decide +kernel
theorem dX0_shift_32 : decode cX0_shift 32 = .ok (.invokestatic 37, 3) := by decide +kernel
theorem dX0_shift_35 : decode cX0_shift 35 = .ok (.aload_n 0, 1) := by decide +kernel
theorem dX0_shift_36 : decode cX0_shift 36 = .ok (.getfield 18, 3) := by decide +kernel
theorem dX0_shift_39 : decode cX0_shift 39 = .ok (.iload_n 1, 1) := by decide +kernel
theorem dX0_shift_40 : decode cX0_shift 40 = .ok (.aload_n 0, 1) := by decide +kernel
theorem dX0_shift_41 : decode cX0_shift 41 = .ok (.getfield 18, 3) := by decide +kernel
theorem dX0_shift_44 : decode cX0_shift 44 = .ok (.iload_n 2, 1) := by decide +kernel
theorem dX0_shift_45 : decode cX0_shift 45 = .ok (.iload_n 3, 1) := by decide +kernel
theorem dX0_shift_46 : decode cX0_shift 46 = .ok (.invokestatic 37, 3) := by decide +kernel
theorem dX0_shift_49 : decode cX0_shift 49 = .ok (.return_, 1) := by decide +kernel
theorem dX0_copyFrom_0 : decode cX0_copyFrom 0 = .ok (.aload_n 1, 1) := by decide +kernel
theorem dX0_copyFrom_1 : decode cX0_copyFrom 1 = .ok (.getfield 9, 3) := by decide +kernel
theorem dX0_copyFrom_4 : decode cX0_copyFrom 4 = .ok (.iconst 0, 1) := by decide +kernel
theorem dX0_copyFrom_5 : decode cX0_copyFrom 5 = .ok (.aload_n 0, 1) := by decide +kernel
theorem dX0_copyFrom_6 : decode cX0_copyFrom 6 = .ok (.getfield 9, 3) := by decide +kernel
theorem dX0_copyFrom_9 : decode cX0_copyFrom 9 = .ok (.iconst 0, 1) := by decide +kernel
theorem dX0_copyFrom_10 : decode cX0_copyFrom 10 = .ok (.aload_n 1, 1) := by decide +kernel
theorem dX0_copyFrom_11 : decode cX0_copyFrom 11 = .ok (.getfield 21, 3) := by decide +kernel
theorem dX0_copyFrom_14 : decode cX0_copyFrom 14 = .ok (.invokestatic 37, 3) := by decide +kernel
theorem dX0_copyFrom_17 : decode cX0_copyFrom 17 = .ok (.aload_n 1, 1) := by decide +kernel
theorem dX0_copyFrom_18 : decode cX0_copyFrom 18 = .ok (.getfield 15, 3) := by decide +kernel
theorem dX0_copyFrom_21 : decode cX0_copyFrom 21 = .ok (.iconst 0, 1) := by decide +kernel
theorem dX0_copyFrom_22 : decode cX0_copyFrom 22 = .ok (.aload_n 0, 1) := by decide +kernel
theorem dX0_copyFrom_23 : decode cX0_copyFrom 23 = .ok (.getfield 15, 3) := by decide +kernel
theorem dX0_copyFrom_26 : decode cX0_copyFrom 26 = .ok (.iconst 0, 1) := by decide +kernel
theorem dX0_copyFrom_27 : decode cX0_copyFrom 27 = .ok (.aload_n 1, 1) := by decide +kernel
theorem dX0_copyFrom_28 : decode cX0_copyFrom 28 = .ok (.getfield 21, 3) := by decide +kernel
theorem dX0_copyFrom_31 : decode cX0_copyFrom 31 = .ok (.invokestatic 37, 3) := by decide +kernel
theorem dX0_copyFrom_34 : decode cX0_copyFrom 34 = .ok (.aload_n 1, 1) := by decide +kernel
theorem dX0_copyFrom_35 : decode cX0_copyFrom 35 = .ok (.getfield 18, 3) := by decide +kernel
theorem dX0_copyFrom_38 : decode cX0_copyFrom 38 = .ok (.iconst 0, 1) := by decide +kernel
theorem dX0_copyFrom_39 : decode cX0_copyFrom 39 = .ok (.aload_n 0, 1) := by decide +kernel
theorem dX0_copyFrom_40 : decode cX0_copyFrom 40 = .ok (.getfield 18, 3) := by decide +kernel
theorem dX0_copyFrom_43 : decode cX0_copyFrom 43 = .ok (.iconst 0, 1) := by decide +kernel
theorem dX0_copyFrom_44 : decode cX0_copyFrom 44 = .ok (.aload_n 1, 1) := by decide +kernel
theorem dX0_copyFrom_45 : decode cX0_copyFrom 45 = .ok (.getfield 21, 3) := by decide +kernel
theorem dX0_copyFrom_48 : decode cX0_copyFrom 48 = .ok (.invokestatic 37, 3) := by decide +kernel
theorem dX0_copyFrom_51 : decode cX0_copyFrom 51 = .ok (.aload_n 0, 1) := by decide +kernel
theorem dX0_copyFrom_52 : decode cX0_copyFrom 52 = .ok (.aload_n 1, 1) := by decide +kernel
theorem dX0_copyFrom_53 : decode cX0_copyFrom 53 = .ok (.getfield 21, 3) := by decide +kernel
theorem dX0_copyFrom_56 : decode cX0_copyFrom 56 = .ok (.putfield 21, 3) := by decide +kernel
theorem dX0_copyFrom_59 : decode cX0_copyFrom 59 = .ok (.return_, 1) := by decide +kernel
theorem dX0_fold_0 : decode cX0_fold 0 = .ok (.iconst 0, 1) := by decide +kernel
theorem dX0_fold_1 : decode cX0_fold 1 = .ok (.istore_n 1, 1) := by decide +kernel
theorem dX0_fold_2 : decode cX0_fold 2 = .ok (.iconst 0, 1) := by decide +kernel
theorem dX0_fold_3 : decode cX0_fold 3 = .ok (.istore_n 2, 1) := by decide +kernel
theorem dX0_fold_4 : decode cX0_fold 4 = .ok (.iload_n 2, 1) := by decide +kernel
theorem dX0_fold_5 : decode cX0_fold 5 = .ok (.aload_n 0, 1) := by decide +kernel
theorem dX0_fold_6 : decode cX0_fold 6 = .ok (.getfield 21, 3) := by decide +kernel
theorem dX0_fold_9 : decode cX0_fold 9 = .ok (.if_icmp .ge 40, 3) := by decide +kernel
theorem dX0_fold_12 : decode cX0_fold 12 = .ok (.iload_n 1, 1) := by decide +kernel
theorem dX0_fold_13 : decode cX0_fold 13 = .ok (.bipush 31, 2) := by decide +kernel
theorem dX0_fold_15 : decode cX0_fold 15 = .ok (.imul, 1) := by decide +kernel
theorem dX0_fold_16 : decode cX0_fold 16 = .ok (.aload_n 0, 1) := by decide +kernel
theorem dX0_fold_17 : decode cX0_fold 17 = .ok (.getfield 9, 3) := by decide +kernel
theorem dX0_fold_20 : decode cX0_fold 20 = .ok (.iload_n 2, 1) := by decide +kernel
theorem dX0_fold_21 : decode cX0_fold 21 = .ok (.iaload, 1) := by decide +kernel
theorem dX0_fold_22 : decode cX0_fold 22 = .ok (.iadd, 1) := by decide +kernel
theorem dX0_fold_23 : decode cX0_fold 23 = .ok (.istore_n 1, 1) := by decide +kernel
theorem dX0_fold_24 : decode cX0_fold 24 = .ok (.iload_n 1, 1) := by decide +kernel
theorem dX0_fold_25 : decode cX0_fold 25 = .ok (.bipush 31, 2) := by decide +kernel
theorem dX0_fold_27 : decode cX0_fold 27 = .ok (.imul, 1) := by decide +kernel
theorem dX0_fold_28 : decode cX0_fold 28 = .ok (.aload_n 0, 1) := by decide +kernel
theorem dX0_fold_29 : decode cX0_fold 29 = .ok (.getfield 15, 3) := by decide +kernel
theorem dX0_fold_32 : decode cX0_fold 32 = .ok (.iload_n 2, 1) := by decide +kernel
theorem dX0_fold_33 : decode cX0_fold 33 = .ok (.iaload, 1) := by decide +kernel
theorem dX0_fold_34 : decode cX0_fold 34 = .ok (.iadd, 1) := by decide +kernel
theorem dX0_fold_35 : decode cX0_fold 35 = .ok (.aload_n 0, 1) := by decide +kernel
theorem dX0_fold_36 : decode cX0_fold 36 = .ok (.getfield 18, 3) := by decide +kernel
theorem dX0_fold_39 : decode cX0_fold 39 = .ok (.iload_n 2, 1) := by decide +kernel
theorem dX0_fold_40 : decode cX0_fold 40 = .ok (.iaload, 1) := by decide +kernel
theorem dX0_fold_41 : decode cX0_fold 41 = .ok (.iadd, 1) := by decide +kernel
theorem dX0_fold_42 : decode cX0_fold 42 = .ok (.istore_n 1, 1) := by decide +kernel
theorem dX0_fold_43 : decode cX0_fold 43 = .ok (.iinc 2 1, 3) := by decide +kernel
theorem dX0_fold_46 : decode cX0_fold 46 = .ok (.goto (-42), 3) := by decide +kernel
theorem dX0_fold_49 : decode cX0_fold 49 = .ok (.iload_n 1, 1) := by decide +kernel
theorem dX0_fold_50 : decode cX0_fold 50 = .ok (.ireturn, 1) := by decide +kernel
set_option maxRecDepth 20000 in
theorem ggX1_init_X0_init : GoodIn wsX1_init wsX0_init := goodIn_r _ [13, 14, 2, 3, 9, 15, 16, 17, 18, 19, 20, 21, 22] (by decide +kernel) (by decide +kernel)
set_option maxRecDepth 20000 in
theorem gX1_init_X0_init_n9 : GoodIn wsX1_init (wsX0_init) := ggX1_init_X0_init
theorem dX1_init_0 : decode cX1_init 0 = .ok (.aload_n 0, 1) := by decide +kernel
theorem dX1_init_1 : decode cX1_init 1 = .ok (.invokespecial 1, 3) := by decide +kernel
theorem dX1_init_4 : decode cX1_init 4 = .ok (.aload_n 0, 1) := by decide +kernel
theorem dX1_init_5 : decode cX1_init 5 = .ok (.new 7, 3) := by decide +kernel
theorem dX1_init_8 : decode cX1_init 8 = .ok (.dup, 1) := by decide +kernel
theorem dX1_init_9 : decode cX1_init 9 = .ok (.invokespecial 9, 3) := by decide +kernel
theorem dX1_init_12 : decode cX1_init 12 = .ok (.putfield 10, 3) := by decide +kernel
theorem dX1_init_15 : decode cX1_init 15 = .ok (.aload_n 0, 1) := by decide +kernel
theorem dX1_init_16 : decode cX1_init 16 = .ok (.iconst 3, 1) := by decide +kernel
theorem dX1_init_17 : decode cX1_init 17 = .ok (.anewarray 7, 3) := by decide +kernel
theorem dX1_init_20 : decode cX1_init 20 = .ok (.putfield 16, 3) := by decide +kernel
theorem dX1_init_23 : decode cX1_init 23 = .ok (.iconst 0, 1) := by decide +kernel
theorem dX1_init_24 : decode cX1_init 24 = .ok (.istore_n 1, 1) := by decide +kernel
theorem dX1_init_25 : decode cX1_init 25 = .ok (.iload_n 1, 1) := by decide +kernel
theorem dX1_init_26 : decode cX1_init 26 = .ok (.iconst 3, 1) := by decide +kernel
theorem dX1_init_27 : decode cX1_init 27 = .ok (.if_icmp .ge 22, 3) := by decide +kernel
theorem dX1_init_30 : decode cX1_init 30 = .ok (.aload_n 0, 1) := by decide +kernel
theorem dX1_init_31 : decode cX1_init 31 = .ok (.getfield 16, 3) := by decide +kernel
theorem dX1_init_34 : decode cX1_init 34 = .ok (.iload_n 1, 1) := by decide +kernel
theorem dX1_init_35 : decode cX1_init 35 = .ok (.new 7, 3) := by decide +kernel
theorem dX1_init_38 : decode cX1_init 38 = .ok (.dup, 1) := by decide +kernel
theorem dX1_init_39 : decode cX1_init 39 = .ok (.invokespecial 9, 3) := by decide +kernel
theorem dX1_init_42 : decode cX1_init 42 = .ok (.aastore, 1) := by decide +kernel
theorem dX1_init_43 : decode cX1_init 43 = .ok (.iinc 1 1, 3) := by decide +kernel
theorem dX1_init_46 : decode cX1_init 46 = .ok (.goto (-21), 3) := by decide +kernel
theorem dX1_init_49 : decode cX1_init 49 = .ok (.aload_n 0, 1) := by decide +kernel
theorem dX1_init_50 : decode cX1_init 50 = .ok (.iconst 4, 1) := by decide +kernel
theorem dX1_init_51 : decode cX1_init 51 = .ok (.newarray .int, 2) := by decide +kernel
theorem dX1_init_53 : decode cX1_init 53 = .ok (.putfield 20, 3) := by decide +kernel
theorem dX1_init_56 : decode cX1_init 56 = .ok (.aload_n 0, 1) := by decide +kernel
theorem dX1_init_57 : decode cX1_init 57 = .ok (.iconst 0, 1) := by decide +kernel
theorem dX1_init_58 : decode cX1_init 58 = .ok (.putfield 24, 3) := by decide +kernel
theorem dX1_init_61 : decode cX1_init 61 = .ok (.return_, 1) := by decide +kernel
set_option maxRecDepth 20000 in
theorem ggX1_put_X0_enter : GoodIn wsX1_put wsX0_enter := goodIn_r _ [6, 7, 8, 9, 10, 11, 12, 13, 5, 14, 15, 16, 17, 18, 19, 20, 21, 22, 23, 24, 25, 26, 31, 32, 33, 34] (by decide +kernel) (by decide +kernel)
set_option maxRecDepth 20000 in
theorem gX1_put_X0_enter : GoodIn wsX1_put (wsV RX1 28 RX0 yX0_enter wsX0_enter) := goodIn_app (goodIn_of _ (by decide +kernel)) ggX1_put_X0_enter
theorem dX1_put_0 : decode cX1_put 0 = .ok (.iload_n 3, 1) := by decide +kernel
theorem dX1_put_1 : decode cX1_put 1 = .ok (.ifCond .lt 10, 3) := by decide +kernel
theorem dX1_put_4 : decode cX1_put 4 = .ok (.iload_n 3, 1) := by decide +kernel
theorem dX1_put_5 : decode cX1_put 5 = .ok (.sipush 300, 3) := by decide +kernel
theorem dX1_put_8 : decode cX1_put 8 = .ok (.if_icmp .le 5, 3) := by decide +kernel
theorem dX1_put_11 : decode cX1_put 11 = .ok (.iconst (-1), 1) := by decide +kernel
theorem dX1_put_12 : decode cX1_put 12 = .ok (.ireturn, 1) := by decide +kernel
theorem dX1_put_13 : decode cX1_put 13 = .ok (.aload_n 0, 1) := by decide +kernel
theorem dX1_put_14 : decode cX1_put 14 = .ok (.getfield 10, 3) := by decide +kernel
theorem dX1_put_17 : decode cX1_put 17 = .ok (.iload_n 1, 1) := by decide +kernel
theorem dX1_put_18 : decode cX1_put 18 = .ok (.iload_n 2, 1) := by decide +kernel
theorem dX1_put_19 : decode cX1_put 19 = .ok (.iload_n 3, 1) := by decide +kernel
theorem dX1_put_20 : decode cX1_put 20 = .ok (.invokevirtual 28, 3) := by decide +kernel
theorem dX1_put_23 : decode cX1_put 23 = .ok (.ireturn, 1) := by decide +kernel
set_option maxRecDepth 20000 in
theorem ggX1_some_X1_sizeInRow : GoodIn wsX1_some wsX1_sizeInRow := goodIn_r _ [5] (by decide +kernel) (by decide +kernel)
set_option maxRecDepth 20000 in
theorem gX1_some_X1_sizeInRow : GoodIn wsX1_some (va_wsS RX1 32 yX1_sizeInRow wsX1_sizeInRow) := goodIn_app (goodIn_of _ (by decide +kernel)) ggX1_some_X1_sizeInRow
set_option maxRecDepth 20000 in
theorem ggX1_some_X0_enter : GoodIn wsX1_some wsX0_enter := goodIn_r _ [10, 11, 12, 13, 14, 15, 16, 17, 9, 18, 19, 20, 21, 22, 23, 24, 25, 26, 27, 28, 29, 30, 35, 36, 37, 38] (by decide +kernel) (by decide +kernel)
set_option maxRecDepth 20000 in
theorem gX1_some_X0_enter : GoodIn wsX1_some (wsV RX1 28 RX0 yX0_enter wsX0_enter) := goodIn_app (goodIn_of _ (by decide +kernel)) ggX1_some_X0_enter
theorem dX1_some_0 : decode cX1_some 0 = .ok (.iload_n 3, 1) := by decide +kernel
theorem dX1_some_1 : decode cX1_some 1 = .ok (.iconst 1, 1) := by decide +kernel
theorem dX1_some_2 : decode cX1_some 2 = .ok (.if_icmp .lt 9, 3) := by decide +kernel
theorem dX1_some_5 : decode cX1_some 5 = .ok (.iload_n 3, 1) := by decide +kernel
theorem dX1_some_6 : decode cX1_some 6 = .ok (.bipush 60, 2) := by decide +kernel
theorem dX1_some_8 : decode cX1_some 8 = .ok (.if_icmp .le 5, 3) := by decide +kernel
theorem dX1_some_11 : decode cX1_some 11 = .ok (.iconst (-1), 1) := by decide +kernel
theorem dX1_some_12 : decode cX1_some 12 = .ok (.ireturn, 1) := by decide +kernel
theorem dX1_some_13 : decode cX1_some 13 = .ok (.iconst 0, 1) := by decide +kernel
theorem dX1_some_14 : decode cX1_some 14 = .ok (.istore 5, 2) := by decide +kernel
theorem dX1_some_16 : decode cX1_some 16 = .ok (.iconst 0, 1) := by decide +kernel
theorem dX1_some_17 : decode cX1_some 17 = .ok (.istore 6, 2) := by decide +kernel
theorem dX1_some_19 : decode cX1_some 19 = .ok (.iload 6, 2) := by decide +kernel
theorem dX1_some_21 : decode cX1_some 21 = .ok (.iload_n 3, 1) := by decide +kernel
theorem dX1_some_22 : decode cX1_some 22 = .ok (.if_icmp .ge 41, 3) := by decide +kernel
theorem dX1_some_25 : decode cX1_some 25 = .ok (.aload_n 0, 1) := by decide +kernel
theorem dX1_some_26 : decode cX1_some 26 = .ok (.getfield 10, 3) := by decide +kernel
theorem dX1_some_29 : decode cX1_some 29 = .ok (.iload_n 1, 1) := by decide +kernel
theorem dX1_some_30 : decode cX1_some 30 = .ok (.iload 6, 2) := by decide +kernel
theorem dX1_some_32 : decode cX1_some 32 = .ok (.iload_n 2, 1) := by decide +kernel
theorem dX1_some_33 : decode cX1_some 33 = .ok (.imul, 1) := by decide +kernel
theorem dX1_some_34 : decode cX1_some 34 = .ok (.iadd, 1) := by decide +kernel
theorem dX1_some_35 : decode cX1_some 35 = .ok (.iload 4, 2) := by decide +kernel
theorem dX1_some_37 : decode cX1_some 37 = .ok (.iload 6, 2) := by decide +kernel
theorem dX1_some_39 : decode cX1_some 39 = .ok (.iadd, 1) := by decide +kernel
theorem dX1_some_40 : decode cX1_some 40 = .ok (.iload 4, 2) := by decide +kernel
theorem dX1_some_42 : decode cX1_some 42 = .ok (.iload 6, 2) := by decide +kernel
theorem dX1_some_44 : decode cX1_some 44 = .ok (.invokestatic 32, 3) := by decide +kernel
theorem dX1_some_47 : decode cX1_some 47 = .ok (.invokevirtual 28, 3) := by decide +kernel
theorem dX1_some_50 : decode cX1_some 50 = .ok (.iconst 1, 1) := by decide +kernel
theorem dX1_some_51 : decode cX1_some 51 = .ok (.if_icmp .ne 6, 3) := by decide +kernel
theorem dX1_some_54 : decode cX1_some 54 = .ok (.iinc 5 1, 3) := by decide +kernel
theorem dX1_some_57 : decode cX1_some 57 = .ok (.iinc 6 1, 3) := by decide +kernel
theorem dX1_some_60 : decode cX1_some 60 = .ok (.goto (-41), 3) := by decide +kernel
theorem dX1_some_63 : decode cX1_some 63 = .ok (.iload 5, 2) := by decide +kernel
theorem dX1_some_65 : decode cX1_some 65 = .ok (.ireturn, 1) := by decide +kernel
set_option maxRecDepth 20000 in
theorem ggX1_remove_X0_drop : GoodIn wsX1_remove wsX0_drop := goodIn_r _ [7, 8, 9, 10, 11, 6, 12, 13, 14, 15, 16, 17, 18, 19, 20, 21, 22, 23, 24, 25, 26, 27, 32, 33, 34, 35] (by decide +kernel) (by decide +kernel)
set_option maxRecDepth 20000 in
theorem gX1_remove_X0_drop : GoodIn wsX1_remove (wsV RX1 36 RX0 yX0_drop wsX0_drop) := goodIn_app (goodIn_of _ (by decide +kernel)) ggX1_remove_X0_drop
theorem dX1_remove_0 : decode cX1_remove 0 = .ok (.aload_n 0, 1) := by decide +kernel
theorem dX1_remove_1 : decode cX1_remove 1 = .ok (.getfield 10, 3) := by decide +kernel
theorem dX1_remove_4 : decode cX1_remove 4 = .ok (.iload_n 1, 1) := by decide +kernel
theorem dX1_remove_5 : decode cX1_remove 5 = .ok (.invokevirtual 36, 3) := by decide +kernel
theorem dX1_remove_8 : decode cX1_remove 8 = .ok (.ifCond .eq 13, 3) := by decide +kernel
theorem dX1_remove_11 : decode cX1_remove 11 = .ok (.aload_n 0, 1) := by decide +kernel
theorem dX1_remove_12 : decode cX1_remove 12 = .ok (.getfield 10, 3) := by decide +kernel
theorem dX1_remove_15 : decode cX1_remove 15 = .ok (.getfield 40, 3) := by decide +kernel
theorem dX1_remove_18 : decode cX1_remove 18 = .ok (.goto 5, 3) := by decide +kernel
theorem dX1_remove_21 : decode cX1_remove 21 = .ok (.bipush (-2), 2) := by decide +kernel
theorem dX1_remove_23 : decode cX1_remove 23 = .ok (.ireturn, 1) := by decide +kernel
set_option maxRecDepth 20000 in
theorem ggX1_commit_X1_tableOfRevision : GoodIn wsX1_commit wsX1_tableOfRevision := goodIn_r _ [7, 8, 9, 10, 11, 12, 26, 27, 28, 29] (by decide +kernel) (by decide +kernel)
set_option maxRecDepth 20000 in
theorem gX1_commit_X1_tableOfRevision : GoodIn wsX1_commit (wsV RX1 43 RX1 yX1_tableOfRevision wsX1_tableOfRevision) := goodIn_app (goodIn_of _ (by decide +kernel)) ggX1_commit_X1_tableOfRevision
set_option maxRecDepth 20000 in
theorem ggX1_commit_X0_copyFrom : GoodIn wsX1_commit wsX0_copyFrom := goodIn_r _ [17, 18, 19, 20, 21, 22, 23, 24, 25, 30, 31, 32, 33] (by decide +kernel) (by decide +kernel)
set_option maxRecDepth 20000 in
theorem gX1_commit_X0_copyFrom : GoodIn wsX1_commit (wsV RX1 47 RX0 yX0_copyFrom wsX0_copyFrom) := goodIn_app (goodIn_of _ (by decide +kernel)) ggX1_commit_X0_copyFrom
theorem dX1_commit_0 : decode cX1_commit 0 = .ok (.iload_n 1, 1) := by decide +kernel
theorem dX1_commit_1 : decode cX1_commit 1 = .ok (.ifCond .lt 21, 3) := by decide +kernel
theorem dX1_commit_4 : decode cX1_commit 4 = .ok (.aload_n 0, 1) := by decide +kernel
theorem dX1_commit_5 : decode cX1_commit 5 = .ok (.getfield 10, 3) := by decide +kernel
theorem dX1_commit_8 : decode cX1_commit 8 = .ok (.aload_n 0, 1) := by decide +kernel
theorem dX1_commit_9 : decode cX1_commit 9 = .ok (.aload_n 0, 1) := by decide +kernel
theorem dX1_commit_10 : decode cX1_commit 10 = .ok (.getfield 24, 3) := by decide +kernel
theorem dX1_commit_13 : decode cX1_commit 13 = .ok (.invokevirtual 43, 3) := by decide +kernel
theorem dX1_commit_16 : decode cX1_commit 16 = .ok (.invokevirtual 47, 3) := by decide +kernel
theorem dX1_commit_19 : decode cX1_commit 19 = .ok (.bipush (-5), 2) := by decide +kernel
theorem dX1_commit_21 : decode cX1_commit 21 = .ok (.ireturn, 1) := by decide +kernel
theorem dX1_commit_22 : decode cX1_commit 22 = .ok (.aload_n 0, 1) := by decide +kernel
theorem dX1_commit_23 : decode cX1_commit 23 = .ok (.dup, 1) := by decide +kernel
theorem dX1_commit_24 : decode cX1_commit 24 = .ok (.getfield 24, 3) := by decide +kernel
theorem dX1_commit_27 : decode cX1_commit 27 = .ok (.iconst 1, 1) := by decide +kernel
theorem dX1_commit_28 : decode cX1_commit 28 = .ok (.iadd, 1) := by decide +kernel
theorem dX1_commit_29 : decode cX1_commit 29 = .ok (.putfield 24, 3) := by decide +kernel
theorem dX1_commit_32 : decode cX1_commit 32 = .ok (.aload_n 0, 1) := by decide +kernel
theorem dX1_commit_33 : decode cX1_commit 33 = .ok (.aload_n 0, 1) := by decide +kernel
theorem dX1_commit_34 : decode cX1_commit 34 = .ok (.getfield 24, 3) := by decide +kernel
theorem dX1_commit_37 : decode cX1_commit 37 = .ok (.invokevirtual 43, 3) := by decide +kernel
theorem dX1_commit_40 : decode cX1_commit 40 = .ok (.aload_n 0, 1) := by decide +kernel
theorem dX1_commit_41 : decode cX1_commit 41 = .ok (.getfield 10, 3) := by decide +kernel
theorem dX1_commit_44 : decode cX1_commit 44 = .ok (.invokevirtual 47, 3) := by decide +kernel
theorem dX1_commit_47 : decode cX1_commit 47 = .ok (.aload_n 0, 1) := by decide +kernel
theorem dX1_commit_48 : decode cX1_commit 48 = .ok (.getfield 24, 3) := by decide +kernel
theorem dX1_commit_51 : decode cX1_commit 51 = .ok (.ireturn, 1) := by decide +kernel
set_option maxRecDepth 20000 in
theorem ggX1_forget_X1_tableOfRevision : GoodIn wsX1_forget wsX1_tableOfRevision := goodIn_r _ [8, 9, 10, 11, 12, 13, 27, 28, 29, 30] (by decide +kernel) (by decide +kernel)
set_option maxRecDepth 20000 in
theorem gX1_forget_X1_tableOfRevision : GoodIn wsX1_forget (wsV RX1 43 RX1 yX1_tableOfRevision wsX1_tableOfRevision) := goodIn_app (goodIn_of _ (by decide +kernel)) ggX1_forget_X1_tableOfRevision
set_option maxRecDepth 20000 in
theorem ggX1_forget_X0_copyFrom : GoodIn wsX1_forget wsX0_copyFrom := goodIn_r _ [18, 19, 20, 21, 22, 23, 24, 25, 26, 31, 32, 33, 34] (by decide +kernel) (by decide +kernel)
set_option maxRecDepth 20000 in
theorem gX1_forget_X0_copyFrom : GoodIn wsX1_forget (wsV RX1 47 RX0 yX0_copyFrom wsX0_copyFrom) := goodIn_app (goodIn_of _ (by decide +kernel)) ggX1_forget_X0_copyFrom
theorem dX1_forget_0 : decode cX1_forget 0 = .ok (.aload_n 0, 1) := by decide +kernel
theorem dX1_forget_1 : decode cX1_forget 1 = .ok (.getfield 10, 3) := by decide +kernel
theorem dX1_forget_4 : decode cX1_forget 4 = .ok (.aload_n 0, 1) := by decide +kernel
theorem dX1_forget_5 : decode cX1_forget 5 = .ok (.aload_n 0, 1) := by decide +kernel
theorem dX1_forget_6 : decode cX1_forget 6 = .ok (.getfield 24, 3) := by decide +kernel
theorem dX1_forget_9 : decode cX1_forget 9 = .ok (.invokevirtual 43, 3) := by decide +kernel
theorem dX1_forget_12 : decode cX1_forget 12 = .ok (.invokevirtual 47, 3) := by decide +kernel
theorem dX1_forget_15 : decode cX1_forget 15 = .ok (.aload_n 0, 1) := by decide +kernel
theorem dX1_forget_16 : decode cX1_forget 16 = .ok (.getfield 10, 3) := by decide +kernel
theorem dX1_forget_19 : decode cX1_forget 19 = .ok (.getfield 40, 3) := by decide +kernel
theorem dX1_forget_22 : decode cX1_forget 22 = .ok (.ireturn, 1) := by decide +kernel
theorem dX1_open_0 : decode cX1_open 0 = .ok (.iload_n 1, 1) := by decide +kernel
theorem dX1_open_1 : decode cX1_open 1 = .ok (.ifCond .lt 8, 3) := by decide +kernel
theorem dX1_open_4 : decode cX1_open 4 = .ok (.iload_n 1, 1) := by decide +kernel
theorem dX1_open_5 : decode cX1_open 5 = .ok (.iconst 4, 1) := by decide +kernel
theorem dX1_open_6 : decode cX1_open 6 = .ok (.if_icmp .lt 5, 3) := by decide +kernel
theorem dX1_open_9 : decode cX1_open 9 = .ok (.iconst (-1), 1) := by decide +kernel
theorem dX1_open_10 : decode cX1_open 10 = .ok (.ireturn, 1) := by decide +kernel
theorem dX1_open_11 : decode cX1_open 11 = .ok (.aload_n 0, 1) := by decide +kernel
theorem dX1_open_12 : decode cX1_open 12 = .ok (.getfield 20, 3) := by decide +kernel
theorem dX1_open_15 : decode cX1_open 15 = .ok (.iload_n 1, 1) := by decide +kernel
theorem dX1_open_16 : decode cX1_open 16 = .ok (.aload_n 0, 1) := by decide +kernel
theorem dX1_open_17 : decode cX1_open 17 = .ok (.getfield 24, 3) := by decide +kernel
theorem dX1_open_20 : decode cX1_open 20 = .ok (.iastore, 1) := by decide +kernel
theorem dX1_open_21 : decode cX1_open 21 = .ok (.aload_n 0, 1) := by decide +kernel
theorem dX1_open_22 : decode cX1_open 22 = .ok (.getfield 24, 3) := by decide +kernel
theorem dX1_open_25 : decode cX1_open 25 = .ok (.ireturn, 1) := by decide +kernel
set_option maxRecDepth 20000 in
theorem ggX1_get_X1_stateOfReader : GoodIn wsX1_get wsX1_stateOfReader := goodIn_r _ [8, 9, 10, 40, 41, 42, 43] (by decide +kernel) (by decide +kernel)
set_option maxRecDepth 20000 in
theorem gX1_get_X1_stateOfReader : GoodIn wsX1_get (wsV RX1 51 RX1 yX1_stateOfReader wsX1_stateOfReader) := goodIn_app (goodIn_of _ (by decide +kernel)) ggX1_get_X1_stateOfReader
set_option maxRecDepth 20000 in
theorem ggX1_get_X1_tableOfReader : GoodIn wsX1_get wsX1_tableOfReader := goodIn_r _ [14, 15, 10, 16, 17, 18, 7, 19, 20, 21, 22, 23, 24, 40, 41, 42, 43] (by decide +kernel) (by decide +kernel)
set_option maxRecDepth 20000 in
theorem gX1_get_X1_tableOfReader : GoodIn wsX1_get (wsV RX1 57 RX1 yX1_tableOfReader wsX1_tableOfReader) := goodIn_app (goodIn_of _ (by decide +kernel)) ggX1_get_X1_tableOfReader
set_option maxRecDepth 20000 in
theorem ggX1_get_X0_placeOf : GoodIn wsX1_get wsX0_placeOf := goodIn_r _ [29, 30, 31, 36, 37, 38, 39] (by decide +kernel) (by decide +kernel)
set_option maxRecDepth 20000 in
theorem gX1_get_X0_placeOf : GoodIn wsX1_get (wsV RX1 60 RX0 yX0_placeOf wsX0_placeOf) := goodIn_app (goodIn_of _ (by decide +kernel)) ggX1_get_X0_placeOf
set_option maxRecDepth 20000 in
theorem ggX1_get_X0_hasAt : GoodIn wsX1_get wsX0_hasAt := goodIn_r _ [35, 30, 31, 36, 37, 38, 39] (by decide +kernel) (by decide +kernel)
set_option maxRecDepth 20000 in
theorem gX1_get_X0_hasAt : GoodIn wsX1_get (wsV RX1 63 RX0 yX0_hasAt wsX0_hasAt) := goodIn_app (goodIn_of _ (by decide +kernel)) ggX1_get_X0_hasAt
theorem dX1_get_0 : decode cX1_get 0 = .ok (.aload_n 0, 1) := by decide +kernel
theorem dX1_get_1 : decode cX1_get 1 = .ok (.iload_n 1, 1) := by decide +kernel
theorem dX1_get_2 : decode cX1_get 2 = .ok (.invokevirtual 51, 3) := by decide +kernel
theorem dX1_get_5 : decode cX1_get 5 = .ok (.istore_n 3, 1) := by decide +kernel
theorem dX1_get_6 : decode cX1_get 6 = .ok (.iload_n 3, 1) := by decide +kernel
theorem dX1_get_7 : decode cX1_get 7 = .ok (.ifCond .eq 10, 3) := by decide +kernel
theorem dX1_get_10 : decode cX1_get 10 = .ok (.ldc2_w 55, 3) := by decide +kernel
theorem dX1_get_13 : decode cX1_get 13 = .ok (.iload_n 3, 1) := by decide +kernel
theorem dX1_get_14 : decode cX1_get 14 = .ok (.i2l, 1) := by decide +kernel
theorem dX1_get_15 : decode cX1_get 15 = .ok (.ladd, 1) := by decide +kernel
theorem dX1_get_16 : decode cX1_get 16 = .ok (.lreturn, 1) := by decide +kernel
theorem dX1_get_17 : decode cX1_get 17 = .ok (.aload_n 0, 1) := by decide +kernel
theorem dX1_get_18 : decode cX1_get 18 = .ok (.iload_n 1, 1) := by decide +kernel
theorem dX1_get_19 : decode cX1_get 19 = .ok (.invokevirtual 57, 3) := by decide +kernel
theorem dX1_get_22 : decode cX1_get 22 = .ok (.astore 4, 2) := by decide +kernel
theorem dX1_get_24 : decode cX1_get 24 = .ok (.aload 4, 2) := by decide +kernel
theorem dX1_get_26 : decode cX1_get 26 = .ok (.iload_n 2, 1) := by decide +kernel
theorem dX1_get_27 : decode cX1_get 27 = .ok (.invokevirtual 60, 3) := by decide +kernel
theorem dX1_get_30 : decode cX1_get 30 = .ok (.istore 5, 2) := by decide +kernel
theorem dX1_get_32 : decode cX1_get 32 = .ok (.aload 4, 2) := by decide +kernel
theorem dX1_get_34 : decode cX1_get 34 = .ok (.iload 5, 2) := by decide +kernel
theorem dX1_get_36 : decode cX1_get 36 = .ok (.iload_n 2, 1) := by decide +kernel
theorem dX1_get_37 : decode cX1_get 37 = .ok (.invokevirtual 63, 3) := by decide +kernel
theorem dX1_get_40 : decode cX1_get 40 = .ok (.ifCond .eq 15, 3) := by decide +kernel
theorem dX1_get_43 : decode cX1_get 43 = .ok (.aload 4, 2) := by decide +kernel
theorem dX1_get_45 : decode cX1_get 45 = .ok (.getfield 67, 3) := by decide +kernel
theorem dX1_get_48 : decode cX1_get 48 = .ok (.iload 5, 2) := by decide +kernel
theorem dX1_get_50 : decode cX1_get 50 = .ok (.iaload, 1) := by decide +kernel
theorem dX1_get_51 : decode cX1_get 51 = .ok (.i2l, 1) := by decide +kernel
theorem dX1_get_52 : decode cX1_get 52 = .ok (.goto 6, 3) := by decide +kernel
theorem dX1_get_55 : decode cX1_get 55 = .ok (.ldc2_w 70, 3) := by decide +kernel
theorem dX1_get_58 : decode cX1_get 58 = .ok (.lreturn, 1) := by decide +kernel
set_option maxRecDepth 20000 in
theorem ggX1_next_X1_stateOfReader : GoodIn wsX1_next wsX1_stateOfReader := goodIn_r _ [9, 10, 11, 45, 46, 47, 48] (by decide +kernel) (by decide +kernel)
set_option maxRecDepth 20000 in
theorem gX1_next_X1_stateOfReader : GoodIn wsX1_next (wsV RX1 51 RX1 yX1_stateOfReader wsX1_stateOfReader) := goodIn_app (goodIn_of _ (by decide +kernel)) ggX1_next_X1_stateOfReader
set_option maxRecDepth 20000 in
theorem ggX1_next_X1_tableOfReader : GoodIn wsX1_next wsX1_tableOfReader := goodIn_r _ [15, 16, 11, 17, 18, 19, 8, 20, 21, 22, 23, 24, 25, 45, 46, 47, 48] (by decide +kernel) (by decide +kernel)
set_option maxRecDepth 20000 in
theorem gX1_next_X1_tableOfReader : GoodIn wsX1_next (wsV RX1 57 RX1 yX1_tableOfReader wsX1_tableOfReader) := goodIn_app (goodIn_of _ (by decide +kernel)) ggX1_next_X1_tableOfReader
set_option maxRecDepth 20000 in
theorem ggX1_next_X0_placeAbove : GoodIn wsX1_next wsX0_placeAbove := goodIn_r _ [30, 31, 32, 33, 29, 34, 35, 36, 37, 38, 39, 40, 41, 42, 43, 44] (by decide +kernel) (by decide +kernel)
set_option maxRecDepth 20000 in
theorem gX1_next_X0_placeAbove : GoodIn wsX1_next (wsV RX1 72 RX0 yX0_placeAbove wsX0_placeAbove) := goodIn_app (goodIn_of _ (by decide +kernel)) ggX1_next_X0_placeAbove
theorem dX1_next_0 : decode cX1_next 0 = .ok (.aload_n 0, 1) := by decide +kernel
theorem dX1_next_1 : decode cX1_next 1 = .ok (.iload_n 1, 1) := by decide +kernel
theorem dX1_next_2 : decode cX1_next 2 = .ok (.invokevirtual 51, 3) := by decide +kernel
theorem dX1_next_5 : decode cX1_next 5 = .ok (.istore_n 3, 1) := by decide +kernel
theorem dX1_next_6 : decode cX1_next 6 = .ok (.iload_n 3, 1) := by decide +kernel
theorem dX1_next_7 : decode cX1_next 7 = .ok (.ifCond .eq 10, 3) := by decide +kernel
theorem dX1_next_10 : decode cX1_next 10 = .ok (.ldc2_w 55, 3) := by decide +kernel
theorem dX1_next_13 : decode cX1_next 13 = .ok (.iload_n 3, 1) := by decide +kernel
theorem dX1_next_14 : decode cX1_next 14 = .ok (.i2l, 1) := by decide +kernel
theorem dX1_next_15 : decode cX1_next 15 = .ok (.ladd, 1) := by decide +kernel
theorem dX1_next_16 : decode cX1_next 16 = .ok (.lreturn, 1) := by decide +kernel
theorem dX1_next_17 : decode cX1_next 17 = .ok (.aload_n 0, 1) := by decide +kernel
theorem dX1_next_18 : decode cX1_next 18 = .ok (.iload_n 1, 1) := by decide +kernel
theorem dX1_next_19 : decode cX1_next 19 = .ok (.invokevirtual 57, 3) := by decide +kernel
theorem dX1_next_22 : decode cX1_next 22 = .ok (.astore 4, 2) := by decide +kernel
theorem dX1_next_24 : decode cX1_next 24 = .ok (.aload 4, 2) := by decide +kernel
theorem dX1_next_26 : decode cX1_next 26 = .ok (.iload_n 2, 1) := by decide +kernel
theorem dX1_next_27 : decode cX1_next 27 = .ok (.invokevirtual 72, 3) := by decide +kernel
theorem dX1_next_30 : decode cX1_next 30 = .ok (.istore 5, 2) := by decide +kernel
theorem dX1_next_32 : decode cX1_next 32 = .ok (.iload 5, 2) := by decide +kernel
theorem dX1_next_34 : decode cX1_next 34 = .ok (.aload 4, 2) := by decide +kernel
theorem dX1_next_36 : decode cX1_next 36 = .ok (.getfield 40, 3) := by decide +kernel
theorem dX1_next_39 : decode cX1_next 39 = .ok (.if_icmp .ge 15, 3) := by decide +kernel
theorem dX1_next_42 : decode cX1_next 42 = .ok (.aload 4, 2) := by decide +kernel
theorem dX1_next_44 : decode cX1_next 44 = .ok (.getfield 75, 3) := by decide +kernel
theorem dX1_next_47 : decode cX1_next 47 = .ok (.iload 5, 2) := by decide +kernel
theorem dX1_next_49 : decode cX1_next 49 = .ok (.iaload, 1) := by decide +kernel
theorem dX1_next_50 : decode cX1_next 50 = .ok (.i2l, 1) := by decide +kernel
theorem dX1_next_51 : decode cX1_next 51 = .ok (.goto 6, 3) := by decide +kernel
theorem dX1_next_54 : decode cX1_next 54 = .ok (.ldc2_w 70, 3) := by decide +kernel
theorem dX1_next_57 : decode cX1_next 57 = .ok (.lreturn, 1) := by decide +kernel
set_option maxRecDepth 20000 in
theorem ggX1_size_X1_stateOfReader : GoodIn wsX1_size wsX1_stateOfReader := goodIn_r _ [6, 7, 8, 38, 39, 40, 41] (by decide +kernel) (by decide +kernel)
set_option maxRecDepth 20000 in
theorem gX1_size_X1_stateOfReader : GoodIn wsX1_size (wsV RX1 51 RX1 yX1_stateOfReader wsX1_stateOfReader) := goodIn_app (goodIn_of _ (by decide +kernel)) ggX1_size_X1_stateOfReader
set_option maxRecDepth 20000 in
theorem ggX1_size_X1_tableOfReader : GoodIn wsX1_size wsX1_tableOfReader := goodIn_r _ [12, 13, 8, 14, 15, 16, 5, 17, 18, 19, 20, 21, 22, 38, 39, 40, 41] (by decide +kernel) (by decide +kernel)
set_option maxRecDepth 20000 in
theorem gX1_size_X1_tableOfReader : GoodIn wsX1_size (wsV RX1 57 RX1 yX1_tableOfReader wsX1_tableOfReader) := goodIn_app (goodIn_of _ (by decide +kernel)) ggX1_size_X1_tableOfReader
set_option maxRecDepth 20000 in
theorem ggX1_size_X0_placeOf : GoodIn wsX1_size wsX0_placeOf := goodIn_r _ [27, 28, 29, 34, 35, 36, 37] (by decide +kernel) (by decide +kernel)
set_option maxRecDepth 20000 in
theorem gX1_size_X0_placeOf : GoodIn wsX1_size (wsV RX1 60 RX0 yX0_placeOf wsX0_placeOf) := goodIn_app (goodIn_of _ (by decide +kernel)) ggX1_size_X0_placeOf
set_option maxRecDepth 20000 in
theorem ggX1_size_X0_hasAt : GoodIn wsX1_size wsX0_hasAt := goodIn_r _ [33, 28, 29, 34, 35, 36, 37] (by decide +kernel) (by decide +kernel)
set_option maxRecDepth 20000 in
theorem gX1_size_X0_hasAt : GoodIn wsX1_size (wsV RX1 63 RX0 yX0_hasAt wsX0_hasAt) := goodIn_app (goodIn_of _ (by decide +kernel)) ggX1_size_X0_hasAt
theorem dX1_size_0 : decode cX1_size 0 = .ok (.aload_n 0, 1) := by decide +kernel
theorem dX1_size_1 : decode cX1_size 1 = .ok (.iload_n 1, 1) := by decide +kernel
theorem dX1_size_2 : decode cX1_size 2 = .ok (.invokevirtual 51, 3) := by decide +kernel
theorem dX1_size_5 : decode cX1_size 5 = .ok (.istore_n 3, 1) := by decide +kernel
theorem dX1_size_6 : decode cX1_size 6 = .ok (.iload_n 3, 1) := by decide +kernel
theorem dX1_size_7 : decode cX1_size 7 = .ok (.ifCond .eq 5, 3) := by decide +kernel
theorem dX1_size_10 : decode cX1_size 10 = .ok (.iload_n 3, 1) := by decide +kernel
theorem dX1_size_11 : decode cX1_size 11 = .ok (.ireturn, 1) := by decide +kernel
theorem dX1_size_12 : decode cX1_size 12 = .ok (.aload_n 0, 1) := by decide +kernel
theorem dX1_size_13 : decode cX1_size 13 = .ok (.iload_n 1, 1) := by decide +kernel
theorem dX1_size_14 : decode cX1_size 14 = .ok (.invokevirtual 57, 3) := by decide +kernel
theorem dX1_size_17 : decode cX1_size 17 = .ok (.astore 4, 2) := by decide +kernel
theorem dX1_size_19 : decode cX1_size 19 = .ok (.aload 4, 2) := by decide +kernel
theorem dX1_size_21 : decode cX1_size 21 = .ok (.iload_n 2, 1) := by decide +kernel
theorem dX1_size_22 : decode cX1_size 22 = .ok (.invokevirtual 60, 3) := by decide +kernel
theorem dX1_size_25 : decode cX1_size 25 = .ok (.istore 5, 2) := by decide +kernel
theorem dX1_size_27 : decode cX1_size 27 = .ok (.aload 4, 2) := by decide +kernel
theorem dX1_size_29 : decode cX1_size 29 = .ok (.iload 5, 2) := by decide +kernel
theorem dX1_size_31 : decode cX1_size 31 = .ok (.iload_n 2, 1) := by decide +kernel
theorem dX1_size_32 : decode cX1_size 32 = .ok (.invokevirtual 63, 3) := by decide +kernel
theorem dX1_size_35 : decode cX1_size 35 = .ok (.ifCond .eq 14, 3) := by decide +kernel
theorem dX1_size_38 : decode cX1_size 38 = .ok (.aload 4, 2) := by decide +kernel
theorem dX1_size_40 : decode cX1_size 40 = .ok (.getfield 78, 3) := by decide +kernel
theorem dX1_size_43 : decode cX1_size 43 = .ok (.iload 5, 2) := by decide +kernel
theorem dX1_size_45 : decode cX1_size 45 = .ok (.iaload, 1) := by decide +kernel
theorem dX1_size_46 : decode cX1_size 46 = .ok (.goto 5, 3) := by decide +kernel
theorem dX1_size_49 : decode cX1_size 49 = .ok (.bipush (-2), 2) := by decide +kernel
theorem dX1_size_51 : decode cX1_size 51 = .ok (.ireturn, 1) := by decide +kernel
set_option maxRecDepth 20000 in
theorem ggX1_count_X1_stateOfReader : GoodIn wsX1_count wsX1_stateOfReader := goodIn_r _ [6, 7, 8, 27, 28, 29, 30] (by decide +kernel) (by decide +kernel)
set_option maxRecDepth 20000 in
theorem gX1_count_X1_stateOfReader : GoodIn wsX1_count (wsV RX1 51 RX1 yX1_stateOfReader wsX1_stateOfReader) := goodIn_app (goodIn_of _ (by decide +kernel)) ggX1_count_X1_stateOfReader
set_option maxRecDepth 20000 in
theorem ggX1_count_X1_tableOfReader : GoodIn wsX1_count wsX1_tableOfReader := goodIn_r _ [12, 13, 8, 14, 15, 16, 5, 17, 18, 19, 20, 21, 22, 27, 28, 29, 30] (by decide +kernel) (by decide +kernel)
set_option maxRecDepth 20000 in
theorem gX1_count_X1_tableOfReader : GoodIn wsX1_count (wsV RX1 57 RX1 yX1_tableOfReader wsX1_tableOfReader) := goodIn_app (goodIn_of _ (by decide +kernel)) ggX1_count_X1_tableOfReader
theorem dX1_count_0 : decode cX1_count 0 = .ok (.aload_n 0, 1) := by decide +kernel
theorem dX1_count_1 : decode cX1_count 1 = .ok (.iload_n 1, 1) := by decide +kernel
theorem dX1_count_2 : decode cX1_count 2 = .ok (.invokevirtual 51, 3) := by decide +kernel
theorem dX1_count_5 : decode cX1_count 5 = .ok (.istore_n 2, 1) := by decide +kernel
theorem dX1_count_6 : decode cX1_count 6 = .ok (.iload_n 2, 1) := by decide +kernel
theorem dX1_count_7 : decode cX1_count 7 = .ok (.ifCond .ne 14, 3) := by decide +kernel
theorem dX1_count_10 : decode cX1_count 10 = .ok (.aload_n 0, 1) := by decide +kernel
theorem dX1_count_11 : decode cX1_count 11 = .ok (.iload_n 1, 1) := by decide +kernel
theorem dX1_count_12 : decode cX1_count 12 = .ok (.invokevirtual 57, 3) := by decide +kernel
theorem dX1_count_15 : decode cX1_count 15 = .ok (.getfield 40, 3) := by decide +kernel
theorem dX1_count_18 : decode cX1_count 18 = .ok (.goto 4, 3) := by decide +kernel
theorem dX1_count_21 : decode cX1_count 21 = .ok (.iload_n 2, 1) := by decide +kernel
theorem dX1_count_22 : decode cX1_count 22 = .ok (.ireturn, 1) := by decide +kernel
set_option maxRecDepth 20000 in
theorem ggX1_digest_X1_stateOfReader : GoodIn wsX1_digest wsX1_stateOfReader := goodIn_r _ [5, 6, 7, 31, 32, 33, 34] (by decide +kernel) (by decide +kernel)
set_option maxRecDepth 20000 in
theorem gX1_digest_X1_stateOfReader : GoodIn wsX1_digest (wsV RX1 51 RX1 yX1_stateOfReader wsX1_stateOfReader) := goodIn_app (goodIn_of _ (by decide +kernel)) ggX1_digest_X1_stateOfReader
set_option maxRecDepth 20000 in
theorem ggX1_digest_X1_tableOfReader : GoodIn wsX1_digest wsX1_tableOfReader := goodIn_r _ [11, 12, 7, 13, 14, 15, 4, 16, 17, 18, 19, 20, 21, 31, 32, 33, 34] (by decide +kernel) (by decide +kernel)
set_option maxRecDepth 20000 in
theorem gX1_digest_X1_tableOfReader : GoodIn wsX1_digest (wsV RX1 57 RX1 yX1_tableOfReader wsX1_tableOfReader) := goodIn_app (goodIn_of _ (by decide +kernel)) ggX1_digest_X1_tableOfReader
set_option maxRecDepth 20000 in
theorem ggX1_digest_X0_fold : GoodIn wsX1_digest wsX0_fold := goodIn_r _ [26, 27, 28, 29, 30, 35, 36, 37, 38] (by decide +kernel) (by decide +kernel)
set_option maxRecDepth 20000 in
theorem gX1_digest_X0_fold : GoodIn wsX1_digest (wsV RX1 81 RX0 yX0_fold wsX0_fold) := goodIn_app (goodIn_of _ (by decide +kernel)) ggX1_digest_X0_fold
theorem dX1_digest_0 : decode cX1_digest 0 = .ok (.aload_n 0, 1) := by decide +kernel
theorem dX1_digest_1 : decode cX1_digest 1 = .ok (.iload_n 1, 1) := by decide +kernel
theorem dX1_digest_2 : decode cX1_digest 2 = .ok (.invokevirtual 51, 3) := by decide +kernel
theorem dX1_digest_5 : decode cX1_digest 5 = .ok (.istore_n 2, 1) := by decide +kernel
theorem dX1_digest_6 : decode cX1_digest 6 = .ok (.iload_n 2, 1) := by decide +kernel
theorem dX1_digest_7 : decode cX1_digest 7 = .ok (.ifCond .ne 14, 3) := by decide +kernel
theorem dX1_digest_10 : decode cX1_digest 10 = .ok (.aload_n 0, 1) := by decide +kernel
theorem dX1_digest_11 : decode cX1_digest 11 = .ok (.iload_n 1, 1) := by decide +kernel
theorem dX1_digest_12 : decode cX1_digest 12 = .ok (.invokevirtual 57, 3) := by decide +kernel
theorem dX1_digest_15 : decode cX1_digest 15 = .ok (.invokevirtual 81, 3) := by decide +kernel
theorem dX1_digest_18 : decode cX1_digest 18 = .ok (.goto 4, 3) := by decide +kernel
theorem dX1_digest_21 : decode cX1_digest 21 = .ok (.iload_n 2, 1) := by decide +kernel
theorem dX1_digest_22 : decode cX1_digest 22 = .ok (.ireturn, 1) := by decide +kernel
theorem dX1_sizeInRow_0 : decode cX1_sizeInRow 0 = .ok (.iload_n 1, 1) := by decide +kernel
theorem dX1_sizeInRow_1 : decode cX1_sizeInRow 1 = .ok (.iconst 2, 1) := by decide +kernel
theorem dX1_sizeInRow_2 : decode cX1_sizeInRow 2 = .ok (.irem, 1) := by decide +kernel
theorem dX1_sizeInRow_3 : decode cX1_sizeInRow 3 = .ok (.ifCond .ne 7, 3) := by decide +kernel
theorem dX1_sizeInRow_6 : decode cX1_sizeInRow 6 = .ok (.iconst 0, 1) := by decide +kernel
theorem dX1_sizeInRow_7 : decode cX1_sizeInRow 7 = .ok (.goto 12, 3) := by decide +kernel
theorem dX1_sizeInRow_10 : decode cX1_sizeInRow 10 = .ok (.iload_n 0, 1) := by decide +kernel
theorem dX1_sizeInRow_11 : decode cX1_sizeInRow 11 = .ok (.bipush 7, 2) := by decide +kernel
theorem dX1_sizeInRow_13 : decode cX1_sizeInRow 13 = .ok (.iload_n 1, 1) := by decide +kernel
theorem dX1_sizeInRow_14 : decode cX1_sizeInRow 14 = .ok (.imul, 1) := by decide +kernel
theorem dX1_sizeInRow_15 : decode cX1_sizeInRow 15 = .ok (.iadd, 1) := by decide +kernel
theorem dX1_sizeInRow_16 : decode cX1_sizeInRow 16 = .ok (.bipush 127, 2) := by decide +kernel
theorem dX1_sizeInRow_18 : decode cX1_sizeInRow 18 = .ok (.iand, 1) := by decide +kernel
theorem dX1_sizeInRow_19 : decode cX1_sizeInRow 19 = .ok (.ireturn, 1) := by decide +kernel
theorem dX1_stateOfReader_0 : decode cX1_stateOfReader 0 = .ok (.iload_n 1, 1) := by decide +kernel
theorem dX1_stateOfReader_1 : decode cX1_stateOfReader 1 = .ok (.iconst (-1), 1) := by decide +kernel
theorem dX1_stateOfReader_2 : decode cX1_stateOfReader 2 = .ok (.if_icmp .lt 8, 3) := by decide +kernel
theorem dX1_stateOfReader_5 : decode cX1_stateOfReader 5 = .ok (.iload_n 1, 1) := by decide +kernel
theorem dX1_stateOfReader_6 : decode cX1_stateOfReader 6 = .ok (.iconst 4, 1) := by decide +kernel
theorem dX1_stateOfReader_7 : decode cX1_stateOfReader 7 = .ok (.if_icmp .lt 5, 3) := by decide +kernel
theorem dX1_stateOfReader_10 : decode cX1_stateOfReader 10 = .ok (.iconst (-1), 1) := by decide +kernel
theorem dX1_stateOfReader_11 : decode cX1_stateOfReader 11 = .ok (.ireturn, 1) := by decide +kernel
theorem dX1_stateOfReader_12 : decode cX1_stateOfReader 12 = .ok (.iload_n 1, 1) := by decide +kernel
theorem dX1_stateOfReader_13 : decode cX1_stateOfReader 13 = .ok (.ifCond .lt 21, 3) := by decide +kernel
theorem dX1_stateOfReader_16 : decode cX1_stateOfReader 16 = .ok (.aload_n 0, 1) := by decide +kernel
theorem dX1_stateOfReader_17 : decode cX1_stateOfReader 17 = .ok (.getfield 24, 3) := by decide +kernel
theorem dX1_stateOfReader_20 : decode cX1_stateOfReader 20 = .ok (.aload_n 0, 1) := by decide +kernel
theorem dX1_stateOfReader_21 : decode cX1_stateOfReader 21 = .ok (.getfield 20, 3) := by decide +kernel
theorem dX1_stateOfReader_24 : decode cX1_stateOfReader 24 = .ok (.iload_n 1, 1) := by decide +kernel
theorem dX1_stateOfReader_25 : decode cX1_stateOfReader 25 = .ok (.iaload, 1) := by decide +kernel
theorem dX1_stateOfReader_26 : decode cX1_stateOfReader 26 = .ok (.isub, 1) := by decide +kernel
theorem dX1_stateOfReader_27 : decode cX1_stateOfReader 27 = .ok (.iconst 3, 1) := by decide +kernel
theorem dX1_stateOfReader_28 : decode cX1_stateOfReader 28 = .ok (.if_icmp .lt 6, 3) := by decide +kernel
theorem dX1_stateOfReader_31 : decode cX1_stateOfReader 31 = .ok (.bipush (-4), 2) := by decide +kernel
theorem dX1_stateOfReader_33 : decode cX1_stateOfReader 33 = .ok (.ireturn, 1) := by decide +kernel
theorem dX1_stateOfReader_34 : decode cX1_stateOfReader 34 = .ok (.iconst 0, 1) := by decide +kernel
theorem dX1_stateOfReader_35 : decode cX1_stateOfReader 35 = .ok (.ireturn, 1) := by decide +kernel
set_option maxRecDepth 20000 in
theorem ggX1_tableOfReader_X1_tableOfRevision : GoodIn wsX1_tableOfReader wsX1_tableOfRevision := goodIn_r _ [7, 8, 9, 10, 11, 12, 13, 14, 15, 16] (by decide +kernel) (by decide +kernel)
set_option maxRecDepth 20000 in
theorem gX1_tableOfReader_X1_tableOfRevision : GoodIn wsX1_tableOfReader (wsV RX1 43 RX1 yX1_tableOfRevision wsX1_tableOfRevision) := goodIn_app (goodIn_of _ (by decide +kernel)) ggX1_tableOfReader_X1_tableOfRevision
theorem dX1_tableOfReader_0 : decode cX1_tableOfReader 0 = .ok (.iload_n 1, 1) := by decide +kernel
theorem dX1_tableOfReader_1 : decode cX1_tableOfReader 1 = .ok (.ifCond .ge 10, 3) := by decide +kernel
theorem dX1_tableOfReader_4 : decode cX1_tableOfReader 4 = .ok (.aload_n 0, 1) := by decide +kernel
theorem dX1_tableOfReader_5 : decode cX1_tableOfReader 5 = .ok (.getfield 10, 3) := by decide +kernel
theorem dX1_tableOfReader_8 : decode cX1_tableOfReader 8 = .ok (.goto 13, 3) := by decide +kernel
theorem dX1_tableOfReader_11 : decode cX1_tableOfReader 11 = .ok (.aload_n 0, 1) := by decide +kernel
theorem dX1_tableOfReader_12 : decode cX1_tableOfReader 12 = .ok (.aload_n 0, 1) := by decide +kernel
theorem dX1_tableOfReader_13 : decode cX1_tableOfReader 13 = .ok (.getfield 20, 3) := by decide +kernel
theorem dX1_tableOfReader_16 : decode cX1_tableOfReader 16 = .ok (.iload_n 1, 1) := by decide +kernel
theorem dX1_tableOfReader_17 : decode cX1_tableOfReader 17 = .ok (.iaload, 1) := by decide +kernel
theorem dX1_tableOfReader_18 : decode cX1_tableOfReader 18 = .ok (.invokevirtual 43, 3) := by decide +kernel
theorem dX1_tableOfReader_21 : decode cX1_tableOfReader 21 = .ok (.areturn, 1) := by decide +kernel
set_option maxRecDepth 20000 in
theorem ggX1_tableOfRevision_J9_floorMod_7cf53 : GoodIn wsX1_tableOfRevision wsJ9_floorMod_7cf53 := goodIn_r _ [5] (by decide +kernel) (by decide +kernel)
set_option maxRecDepth 20000 in
theorem gX1_tableOfRevision_J9_floorMod_7cf53 : GoodIn wsX1_tableOfRevision (va_wsS RX1 85 yJ9_floorMod_7cf53 wsJ9_floorMod_7cf53) := goodIn_app (goodIn_of _ (by decide +kernel)) ggX1_tableOfRevision_J9_floorMod_7cf53
theorem dX1_tableOfRevision_0 : decode cX1_tableOfRevision 0 = .ok (.aload_n 0, 1) := by decide +kernel
theorem dX1_tableOfRevision_1 : decode cX1_tableOfRevision 1 = .ok (.getfield 16, 3) := by decide +kernel
theorem dX1_tableOfRevision_4 : decode cX1_tableOfRevision 4 = .ok (.iload_n 1, 1) := by decide +kernel
theorem dX1_tableOfRevision_5 : decode cX1_tableOfRevision 5 = .ok (.iconst 3, 1) := by decide +kernel
theorem dX1_tableOfRevision_6 : decode cX1_tableOfRevision 6 = .ok (.invokestatic 85, 3) := by decide +kernel
theorem dX1_tableOfRevision_9 : decode cX1_tableOfRevision 9 = .ok (.aaload, 1) := by decide +kernel
theorem dX1_tableOfRevision_10 : decode cX1_tableOfRevision 10 = .ok (.areturn, 1) := by decide +kernel
theorem dX2_init_0 : decode cX2_init 0 = .ok (.aload_n 0, 1) := by decide +kernel
theorem dX2_init_1 : decode cX2_init 1 = .ok (.invokespecial 1, 3) := by decide +kernel
theorem dX2_init_4 : decode cX2_init 4 = .ok (.aload_n 0, 1) := by decide +kernel
theorem dX2_init_5 : decode cX2_init 5 = .ok (.sipush 1600, 3) := by decide +kernel
theorem dX2_init_8 : decode cX2_init 8 = .ok (.newarray .int, 2) := by decide +kernel
theorem dX2_init_10 : decode cX2_init 10 = .ok (.putfield 9, 3) := by decide +kernel
theorem dX2_init_13 : decode cX2_init 13 = .ok (.aload_n 0, 1) := by decide +kernel
theorem dX2_init_14 : decode cX2_init 14 = .ok (.sipush 1600, 3) := by decide +kernel
theorem dX2_init_17 : decode cX2_init 17 = .ok (.newarray .int, 2) := by decide +kernel
theorem dX2_init_19 : decode cX2_init 19 = .ok (.putfield 13, 3) := by decide +kernel
theorem dX2_init_22 : decode cX2_init 22 = .ok (.aload_n 0, 1) := by decide +kernel
theorem dX2_init_23 : decode cX2_init 23 = .ok (.sipush 1600, 3) := by decide +kernel
theorem dX2_init_26 : decode cX2_init 26 = .ok (.newarray .int, 2) := by decide +kernel
theorem dX2_init_28 : decode cX2_init 28 = .ok (.putfield 16, 3) := by decide +kernel
theorem dX2_init_31 : decode cX2_init 31 = .ok (.aload_n 0, 1) := by decide +kernel
theorem dX2_init_32 : decode cX2_init 32 = .ok (.iconst 4, 1) := by decide +kernel
theorem dX2_init_33 : decode cX2_init 33 = .ok (.newarray .int, 2) := by decide +kernel
theorem dX2_init_35 : decode cX2_init 35 = .ok (.putfield 19, 3) := by decide +kernel
theorem dX2_init_38 : decode cX2_init 38 = .ok (.aload_n 0, 1) := by decide +kernel
theorem dX2_init_39 : decode cX2_init 39 = .ok (.iconst 4, 1) := by decide +kernel
theorem dX2_init_40 : decode cX2_init 40 = .ok (.newarray .int, 2) := by decide +kernel
theorem dX2_init_42 : decode cX2_init 42 = .ok (.putfield 22, 3) := by decide +kernel
theorem dX2_init_45 : decode cX2_init 45 = .ok (.return_, 1) := by decide +kernel
theorem dX2_copy_0 : decode cX2_copy 0 = .ok (.iconst 0, 1) := by decide +kernel
theorem dX2_copy_1 : decode cX2_copy 1 = .ok (.istore_n 3, 1) := by decide +kernel
theorem dX2_copy_2 : decode cX2_copy 2 = .ok (.iload_n 3, 1) := by decide +kernel
theorem dX2_copy_3 : decode cX2_copy 3 = .ok (.aload_n 0, 1) := by decide +kernel
theorem dX2_copy_4 : decode cX2_copy 4 = .ok (.getfield 19, 3) := by decide +kernel
theorem dX2_copy_7 : decode cX2_copy 7 = .ok (.iload_n 1, 1) := by decide +kernel
theorem dX2_copy_8 : decode cX2_copy 8 = .ok (.iaload, 1) := by decide +kernel
theorem dX2_copy_9 : decode cX2_copy 9 = .ok (.if_icmp .ge 81, 3) := by decide +kernel
theorem dX2_copy_12 : decode cX2_copy 12 = .ok (.aload_n 0, 1) := by decide +kernel
theorem dX2_copy_13 : decode cX2_copy 13 = .ok (.getfield 9, 3) := by decide +kernel
theorem dX2_copy_16 : decode cX2_copy 16 = .ok (.sipush 400, 3) := by decide +kernel
theorem dX2_copy_19 : decode cX2_copy 19 = .ok (.iload_n 2, 1) := by decide +kernel
theorem dX2_copy_20 : decode cX2_copy 20 = .ok (.imul, 1) := by decide +kernel
theorem dX2_copy_21 : decode cX2_copy 21 = .ok (.iload_n 3, 1) := by decide +kernel
theorem dX2_copy_22 : decode cX2_copy 22 = .ok (.iadd, 1) := by decide +kernel
theorem dX2_copy_23 : decode cX2_copy 23 = .ok (.aload_n 0, 1) := by decide +kernel
theorem dX2_copy_24 : decode cX2_copy 24 = .ok (.getfield 9, 3) := by decide +kernel
theorem dX2_copy_27 : decode cX2_copy 27 = .ok (.sipush 400, 3) := by decide +kernel
theorem dX2_copy_30 : decode cX2_copy 30 = .ok (.iload_n 1, 1) := by decide +kernel
theorem dX2_copy_31 : decode cX2_copy 31 = .ok (.imul, 1) := by decide +kernel
theorem dX2_copy_32 : decode cX2_copy 32 = .ok (.iload_n 3, 1) := by decide +kernel
theorem dX2_copy_33 : decode cX2_copy 33 = .ok (.iadd, 1) := by decide +kernel
theorem dX2_copy_34 : decode cX2_copy 34 = .ok (.iaload, 1) := by decide +kernel
theorem dX2_copy_35 : decode cX2_copy 35 = .ok (.iastore, 1) := by decide +kernel
theorem dX2_copy_36 : decode cX2_copy 36 = .ok (.aload_n 0, 1) := by decide +kernel
theorem dX2_copy_37 : decode cX2_copy 37 = .ok (.getfield 13, 3) := by decide +kernel
theorem dX2_copy_40 : decode cX2_copy 40 = .ok (.sipush 400, 3) := by decide +kernel
theorem dX2_copy_43 : decode cX2_copy 43 = .ok (.iload_n 2, 1) := by decide +kernel
theorem dX2_copy_44 : decode cX2_copy 44 = .ok (.imul, 1) := by decide +kernel
theorem dX2_copy_45 : decode cX2_copy 45 = .ok (.iload_n 3, 1) := by decide +kernel
theorem dX2_copy_46 : decode cX2_copy 46 = .ok (.iadd, 1) := by decide +kernel
theorem dX2_copy_47 : decode cX2_copy 47 = .ok (.aload_n 0, 1) := by decide +kernel
theorem dX2_copy_48 : decode cX2_copy 48 = .ok (.getfield 13, 3) := by decide +kernel
theorem dX2_copy_51 : decode cX2_copy 51 = .ok (.sipush 400, 3) := by decide +kernel
theorem dX2_copy_54 : decode cX2_copy 54 = .ok (.iload_n 1, 1) := by decide +kernel
theorem dX2_copy_55 : decode cX2_copy 55 = .ok (.imul, 1) := by decide +kernel
theorem dX2_copy_56 : decode cX2_copy 56 = .ok (.iload_n 3, 1) := by decide +kernel
theorem dX2_copy_57 : decode cX2_copy 57 = .ok (.iadd, 1) := by decide +kernel
theorem dX2_copy_58 : decode cX2_copy 58 = .ok (.iaload, 1) := by decide +kernel
theorem dX2_copy_59 : decode cX2_copy 59 = .ok (.iastore, 1) := by decide +kernel
theorem dX2_copy_60 : decode cX2_copy 60 = .ok (.aload_n 0, 1) := by decide +kernel
theorem dX2_copy_61 : decode cX2_copy 61 = .ok (.getfield 16, 3) := by decide +kernel
theorem dX2_copy_64 : decode cX2_copy 64 = .ok (.sipush 400, 3) := by decide +kernel
theorem dX2_copy_67 : decode cX2_copy 67 = .ok (.iload_n 2, 1) := by decide +kernel
theorem dX2_copy_68 : decode cX2_copy 68 = .ok (.imul, 1) := by decide +kernel
theorem dX2_copy_69 : decode cX2_copy 69 = .ok (.iload_n 3, 1) := by decide +kernel
theorem dX2_copy_70 : decode cX2_copy 70 = .ok (.iadd, 1) := by decide +kernel
theorem dX2_copy_71 : decode cX2_copy 71 = .ok (.aload_n 0, 1) := by decide +kernel
theorem dX2_copy_72 : decode cX2_copy 72 = .ok (.getfield 16, 3) := by decide +kernel
theorem dX2_copy_75 : decode cX2_copy 75 = .ok (.sipush 400, 3) := by decide +kernel
theorem dX2_copy_78 : decode cX2_copy 78 = .ok (.iload_n 1, 1) := by decide +kernel
theorem dX2_copy_79 : decode cX2_copy 79 = .ok (.imul, 1) := by decide +kernel
theorem dX2_copy_80 : decode cX2_copy 80 = .ok (.iload_n 3, 1) := by decide +kernel
theorem dX2_copy_81 : decode cX2_copy 81 = .ok (.iadd, 1) := by decide +kernel
theorem dX2_copy_82 : decode cX2_copy 82 = .ok (.iaload, 1) := by decide +kernel
theorem dX2_copy_83 : decode cX2_copy 83 = .ok (.iastore, 1) := by decide +kernel
theorem dX2_copy_84 : decode cX2_copy 84 = .ok (.iinc 3 1, 3) := by decide +kernel
theorem dX2_copy_87 : decode cX2_copy 87 = .ok (.goto (-85), 3) := by decide +kernel
theorem dX2_copy_90 : decode cX2_copy 90 = .ok (.aload_n 0, 1) := by decide +kernel
theorem dX2_copy_91 : decode cX2_copy 91 = .ok (.getfield 19, 3) := by decide +kernel
theorem dX2_copy_94 : decode cX2_copy 94 = .ok (.iload_n 2, 1) := by decide +kernel
theorem dX2_copy_95 : decode cX2_copy 95 = .ok (.aload_n 0, 1) := by decide +kernel
theorem dX2_copy_96 : decode cX2_copy 96 = .ok (.getfield 19, 3) := by decide +kernel
theorem dX2_copy_99 : decode cX2_copy 99 = .ok (.iload_n 1, 1) := by decide +kernel
theorem dX2_copy_100 : decode cX2_copy 100 = .ok (.iaload, 1) := by decide +kernel
theorem dX2_copy_101 : decode cX2_copy 101 = .ok (.iastore, 1) := by decide +kernel
theorem dX2_copy_102 : decode cX2_copy 102 = .ok (.return_, 1) := by decide +kernel
theorem dX2_place_0 : decode cX2_place 0 = .ok (.sipush 400, 3) := by decide +kernel
theorem dX2_place_3 : decode cX2_place 3 = .ok (.iload_n 1, 1) := by decide +kernel
theorem dX2_place_4 : decode cX2_place 4 = .ok (.imul, 1) := by decide +kernel
theorem dX2_place_5 : decode cX2_place 5 = .ok (.istore_n 3, 1) := by decide +kernel
theorem dX2_place_6 : decode cX2_place 6 = .ok (.iload_n 3, 1) := by decide +kernel
theorem dX2_place_7 : decode cX2_place 7 = .ok (.sipush 400, 3) := by decide +kernel
theorem dX2_place_10 : decode cX2_place 10 = .ok (.iload_n 1, 1) := by decide +kernel
theorem dX2_place_11 : decode cX2_place 11 = .ok (.imul, 1) := by decide +kernel
theorem dX2_place_12 : decode cX2_place 12 = .ok (.aload_n 0, 1) := by decide +kernel
theorem dX2_place_13 : decode cX2_place 13 = .ok (.getfield 19, 3) := by decide +kernel
theorem dX2_place_16 : decode cX2_place 16 = .ok (.iload_n 1, 1) := by decide +kernel
theorem dX2_place_17 : decode cX2_place 17 = .ok (.iaload, 1) := by decide +kernel
theorem dX2_place_18 : decode cX2_place 18 = .ok (.iadd, 1) := by decide +kernel
theorem dX2_place_19 : decode cX2_place 19 = .ok (.if_icmp .ge 19, 3) := by decide +kernel
theorem dX2_place_22 : decode cX2_place 22 = .ok (.aload_n 0, 1) := by decide +kernel
theorem dX2_place_23 : decode cX2_place 23 = .ok (.getfield 9, 3) := by decide +kernel
theorem dX2_place_26 : decode cX2_place 26 = .ok (.iload_n 3, 1) := by decide +kernel
theorem dX2_place_27 : decode cX2_place 27 = .ok (.iaload, 1) := by decide +kernel
theorem dX2_place_28 : decode cX2_place 28 = .ok (.iload_n 2, 1) := by decide +kernel
theorem dX2_place_29 : decode cX2_place 29 = .ok (.if_icmp .ge 9, 3) := by decide +kernel
theorem dX2_place_32 : decode cX2_place 32 = .ok (.iinc 3 1, 3) := by decide +kernel
theorem dX2_place_35 : decode cX2_place 35 = .ok (.goto (-29), 3) := by decide +kernel
theorem dX2_place_38 : decode cX2_place 38 = .ok (.iload_n 3, 1) := by decide +kernel
theorem dX2_place_39 : decode cX2_place 39 = .ok (.ireturn, 1) := by decide +kernel
theorem dX2_is_0 : decode cX2_is 0 = .ok (.iload_n 2, 1) := by decide +kernel
theorem dX2_is_1 : decode cX2_is 1 = .ok (.sipush 400, 3) := by decide +kernel
theorem dX2_is_4 : decode cX2_is 4 = .ok (.iload_n 1, 1) := by decide +kernel
theorem dX2_is_5 : decode cX2_is 5 = .ok (.imul, 1) := by decide +kernel
theorem dX2_is_6 : decode cX2_is 6 = .ok (.aload_n 0, 1) := by decide +kernel
theorem dX2_is_7 : decode cX2_is 7 = .ok (.getfield 19, 3) := by decide +kernel
theorem dX2_is_10 : decode cX2_is 10 = .ok (.iload_n 1, 1) := by decide +kernel
theorem dX2_is_11 : decode cX2_is 11 = .ok (.iaload, 1) := by decide +kernel
theorem dX2_is_12 : decode cX2_is 12 = .ok (.iadd, 1) := by decide +kernel
theorem dX2_is_13 : decode cX2_is 13 = .ok (.if_icmp .ge 17, 3) := by decide +kernel
theorem dX2_is_16 : decode cX2_is 16 = .ok (.aload_n 0, 1) := by decide +kernel
theorem dX2_is_17 : decode cX2_is 17 = .ok (.getfield 9, 3) := by decide +kernel
theorem dX2_is_20 : decode cX2_is 20 = .ok (.iload_n 2, 1) := by decide +kernel
theorem dX2_is_21 : decode cX2_is 21 = .ok (.iaload, 1) := by decide +kernel
theorem dX2_is_22 : decode cX2_is 22 = .ok (.iload_n 3, 1) := by decide +kernel
theorem dX2_is_23 : decode cX2_is 23 = .ok (.if_icmp .ne 7, 3) := by decide +kernel
theorem dX2_is_26 : decode cX2_is 26 = .ok (.iconst 1, 1) := by decide +kernel
theorem dX2_is_27 : decode cX2_is 27 = .ok (.goto 4, 3) := by decide +kernel
theorem dX2_is_30 : decode cX2_is 30 = .ok (.iconst 0, 1) := by decide +kernel
theorem dX2_is_31 : decode cX2_is 31 = .ok (.ireturn, 1) := by decide +kernel
set_option maxRecDepth 20000 in
theorem ggX2_put_X2_place : GoodIn wsX2_put wsX2_place := goodIn_r _ [9, 1, 2, 14, 15, 16, 17, 18, 19] (by decide +kernel) (by decide +kernel)
set_option maxRecDepth 20000 in
theorem gX2_put_X2_place : GoodIn wsX2_put (wsV RX2 25 RX2 yX2_place wsX2_place) := goodIn_app (goodIn_of _ (by decide +kernel)) ggX2_put_X2_place
set_option maxRecDepth 20000 in
theorem ggX2_put_X2_is : GoodIn wsX2_put wsX2_is := goodIn_r _ [13, 1, 2, 14, 15, 16, 17, 18, 19] (by decide +kernel) (by decide +kernel)
set_option maxRecDepth 20000 in
theorem gX2_put_X2_is : GoodIn wsX2_put (wsV RX2 29 RX2 yX2_is wsX2_is) := goodIn_app (goodIn_of _ (by decide +kernel)) ggX2_put_X2_is
theorem dX2_put_0 : decode cX2_put 0 = .ok (.iload_n 3, 1) := by decide +kernel
theorem dX2_put_1 : decode cX2_put 1 = .ok (.ifCond .lt 10, 3) := by decide +kernel
theorem dX2_put_4 : decode cX2_put 4 = .ok (.iload_n 3, 1) := by decide +kernel
theorem dX2_put_5 : decode cX2_put 5 = .ok (.sipush 300, 3) := by decide +kernel
theorem dX2_put_8 : decode cX2_put 8 = .ok (.if_icmp .le 5, 3) := by decide +kernel
theorem dX2_put_11 : decode cX2_put 11 = .ok (.iconst (-1), 1) := by decide +kernel
theorem dX2_put_12 : decode cX2_put 12 = .ok (.ireturn, 1) := by decide +kernel
theorem dX2_put_13 : decode cX2_put 13 = .ok (.aload_n 0, 1) := by decide +kernel
theorem dX2_put_14 : decode cX2_put 14 = .ok (.iconst 3, 1) := by decide +kernel
theorem dX2_put_15 : decode cX2_put 15 = .ok (.iload_n 1, 1) := by decide +kernel
theorem dX2_put_16 : decode cX2_put 16 = .ok (.invokevirtual 25, 3) := by decide +kernel
theorem dX2_put_19 : decode cX2_put 19 = .ok (.istore 4, 2) := by decide +kernel
theorem dX2_put_21 : decode cX2_put 21 = .ok (.aload_n 0, 1) := by decide +kernel
theorem dX2_put_22 : decode cX2_put 22 = .ok (.iconst 3, 1) := by decide +kernel
theorem dX2_put_23 : decode cX2_put 23 = .ok (.iload 4, 2) := by decide +kernel
theorem dX2_put_25 : decode cX2_put 25 = .ok (.iload_n 1, 1) := by decide +kernel
theorem dX2_put_26 : decode cX2_put 26 = .ok (.invokevirtual 29, 3) := by decide +kernel
theorem dX2_put_29 : decode cX2_put 29 = .ok (.istore 5, 2) := by decide +kernel
theorem dX2_put_31 : decode cX2_put 31 = .ok (.iload 5, 2) := by decide +kernel
theorem dX2_put_33 : decode cX2_put 33 = .ok (.ifCond .ne 18, 3) := by decide +kernel
theorem dX2_put_36 : decode cX2_put 36 = .ok (.aload_n 0, 1) := by decide +kernel
theorem dX2_put_37 : decode cX2_put 37 = .ok (.getfield 19, 3) := by decide +kernel
theorem dX2_put_40 : decode cX2_put 40 = .ok (.iconst 3, 1) := by decide +kernel
theorem dX2_put_41 : decode cX2_put 41 = .ok (.iaload, 1) := by decide +kernel
theorem dX2_put_42 : decode cX2_put 42 = .ok (.sipush 400, 3) := by decide +kernel
theorem dX2_put_45 : decode cX2_put 45 = .ok (.if_icmp .ne 6, 3) := by decide +kernel
theorem dX2_put_48 : decode cX2_put 48 = .ok (.bipush (-3), 2) := by decide +kernel
theorem dX2_put_50 : decode cX2_put 50 = .ok (.ireturn, 1) := by decide +kernel
theorem dX2_put_51 : decode cX2_put 51 = .ok (.iload 5, 2) := by decide +kernel
theorem dX2_put_53 : decode cX2_put 53 = .ok (.ifCond .ne 86, 3) := by decide +kernel
theorem dX2_put_56 : decode cX2_put 56 = .ok (.sipush 1200, 3) := by decide +kernel
theorem dX2_put_59 : decode cX2_put 59 = .ok (.aload_n 0, 1) := by decide +kernel
theorem dX2_put_60 : decode cX2_put 60 = .ok (.getfield 19, 3) := by decide +kernel
theorem dX2_put_63 : decode cX2_put 63 = .ok (.iconst 3, 1) := by decide +kernel
theorem dX2_put_64 : decode cX2_put 64 = .ok (.iaload, 1) := by decide +kernel
theorem dX2_put_65 : decode cX2_put 65 = .ok (.iadd, 1) := by decide +kernel
theorem dX2_put_66 : decode cX2_put 66 = .ok (.istore 6, 2) := by decide +kernel
theorem dX2_put_68 : decode cX2_put 68 = .ok (.iload 6, 2) := by decide +kernel
theorem dX2_put_70 : decode cX2_put 70 = .ok (.iload 4, 2) := by decide +kernel
theorem dX2_put_72 : decode cX2_put 72 = .ok (.if_icmp .le 57, 3) := by decide +kernel
theorem dX2_put_75 : decode cX2_put 75 = .ok (.aload_n 0, 1) := by decide +kernel
theorem dX2_put_76 : decode cX2_put 76 = .ok (.getfield 9, 3) := by decide +kernel
theorem dX2_put_79 : decode cX2_put 79 = .ok (.iload 6, 2) := by decide +kernel
theorem dX2_put_81 : decode cX2_put 81 = .ok (.aload_n 0, 1) := by decide +kernel
theorem dX2_put_82 : decode cX2_put 82 = .ok (.getfield 9, 3) := by decide +kernel
theorem dX2_put_85 : decode cX2_put 85 = .ok (.iload 6, 2) := by decide +kernel
theorem dX2_put_87 : decode cX2_put 87 = .ok (.iconst 1, 1) := by decide +kernel
theorem dX2_put_88 : decode cX2_put 88 = .ok (.isub, 1) := by decide +kernel
theorem dX2_put_89 : decode cX2_put 89 = .ok (.iaload, 1) := by decide +kernel
theorem dX2_put_90 : decode cX2_put 90 = .ok (.iastore, 1) := by decide +kernel
theorem dX2_put_91 : decode cX2_put 91 = .ok (.aload_n 0, 1) := by decide +kernel
theorem dX2_put_92 : decode cX2_put 92 = .ok (.getfield 13, 3) := by decide +kernel
theorem dX2_put_95 : decode cX2_put 95 = .ok (.iload 6, 2) := by decide +kernel
theorem dX2_put_97 : decode cX2_put 97 = .ok (.aload_n 0, 1) := by decide +kernel
theorem dX2_put_98 : decode cX2_put 98 = .ok (.getfield 13, 3) := by decide +kernel
theorem dX2_put_101 : decode cX2_put 101 = .ok (.iload 6, 2) := by decide +kernel
theorem dX2_put_103 : decode cX2_put 103 = .ok (.iconst 1, 1) := by decide +kernel
theorem dX2_put_104 : decode cX2_put 104 = .ok (.isub, 1) := by decide +kernel
theorem dX2_put_105 : decode cX2_put 105 = .ok (.iaload, 1) := by decide +kernel
theorem dX2_put_106 : decode cX2_put 106 = .ok (.iastore, 1) := by decide +kernel
theorem dX2_put_107 : decode cX2_put 107 = .ok (.aload_n 0, 1) := by decide +kernel
theorem dX2_put_108 : decode cX2_put 108 = .ok (.getfield 16, 3) := by decide +kernel
theorem dX2_put_111 : decode cX2_put 111 = .ok (.iload 6, 2) := by decide +kernel
theorem dX2_put_113 : decode cX2_put 113 = .ok (.aload_n 0, 1) := by decide +kernel
theorem dX2_put_114 : decode cX2_put 114 = .ok (.getfield 16, 3) := by decide +kernel
theorem dX2_put_117 : decode cX2_put 117 = .ok (.iload 6, 2) := by decide +kernel
theorem dX2_put_119 : decode cX2_put 119 = .ok (.iconst 1, 1) := by decide +kernel
theorem dX2_put_120 : decode cX2_put 120 = .ok (.isub, 1) := by decide +kernel
theorem dX2_put_121 : decode cX2_put 121 = .ok (.iaload, 1) := by decide +kernel
theorem dX2_put_122 : decode cX2_put 122 = .ok (.iastore, 1) := by decide +kernel
theorem dX2_put_123 : decode cX2_put 123 = .ok (.iinc 6 (-1), 3) := by decide +kernel
theorem dX2_put_126 : decode cX2_put 126 = .ok (.goto (-58), 3) := by decide +kernel
theorem dX2_put_129 : decode cX2_put 129 = .ok (.aload_n 0, 1) := by decide +kernel
theorem dX2_put_130 : decode cX2_put 130 = .ok (.getfield 19, 3) := by decide +kernel
theorem dX2_put_133 : decode cX2_put 133 = .ok (.iconst 3, 1) := by decide +kernel
theorem dX2_put_134 : decode cX2_put 134 = .ok (.dup2, 1) := by decide +kernel
theorem dX2_put_135 : decode cX2_put 135 = .ok (.iaload, 1) := by decide +kernel
theorem dX2_put_136 : decode cX2_put 136 = .ok (.iconst 1, 1) := by decide +kernel
theorem dX2_put_137 : decode cX2_put 137 = .ok (.iadd, 1) := by decide +kernel
theorem dX2_put_138 : decode cX2_put 138 = .ok (.iastore, 1) := by decide +kernel
theorem dX2_put_139 : decode cX2_put 139 = .ok (.aload_n 0, 1) := by decide +kernel
theorem dX2_put_140 : decode cX2_put 140 = .ok (.getfield 9, 3) := by decide +kernel
theorem dX2_put_143 : decode cX2_put 143 = .ok (.iload 4, 2) := by decide +kernel
theorem dX2_put_145 : decode cX2_put 145 = .ok (.iload_n 1, 1) := by decide +kernel
theorem dX2_put_146 : decode cX2_put 146 = .ok (.iastore, 1) := by decide +kernel
theorem dX2_put_147 : decode cX2_put 147 = .ok (.aload_n 0, 1) := by decide +kernel
theorem dX2_put_148 : decode cX2_put 148 = .ok (.getfield 13, 3) := by decide +kernel
theorem dX2_put_151 : decode cX2_put 151 = .ok (.iload 4, 2) := by decide +kernel
theorem dX2_put_153 : decode cX2_put 153 = .ok (.iload_n 2, 1) := by decide +kernel
theorem dX2_put_154 : decode cX2_put 154 = .ok (.iastore, 1) := by decide +kernel
theorem dX2_put_155 : decode cX2_put 155 = .ok (.aload_n 0, 1) := by decide +kernel
theorem dX2_put_156 : decode cX2_put 156 = .ok (.getfield 16, 3) := by decide +kernel
theorem dX2_put_159 : decode cX2_put 159 = .ok (.iload 4, 2) := by decide +kernel
theorem dX2_put_161 : decode cX2_put 161 = .ok (.iload_n 3, 1) := by decide +kernel
theorem dX2_put_162 : decode cX2_put 162 = .ok (.iastore, 1) := by decide +kernel
theorem dX2_put_163 : decode cX2_put 163 = .ok (.iload 5, 2) := by decide +kernel
theorem dX2_put_165 : decode cX2_put 165 = .ok (.ifCond .eq 7, 3) := by decide +kernel
theorem dX2_put_168 : decode cX2_put 168 = .ok (.iconst 0, 1) := by decide +kernel
theorem dX2_put_169 : decode cX2_put 169 = .ok (.goto 4, 3) := by decide +kernel
theorem dX2_put_172 : decode cX2_put 172 = .ok (.iconst 1, 1) := by decide +kernel
theorem dX2_put_173 : decode cX2_put 173 = .ok (.ireturn, 1) := by decide +kernel
set_option maxRecDepth 20000 in
theorem ggX2_some_X2_put : GoodIn wsX2_some wsX2_put := goodIn_r _ [5, 6, 7, 8, 9, 10, 11, 12, 4, 13, 14, 15, 16, 17, 18, 19, 20, 21, 22, 23] (by decide +kernel) (by decide +kernel)
set_option maxRecDepth 20000 in
theorem gX2_some_X2_put : GoodIn wsX2_some (wsV RX2 33 RX2 yX2_put wsX2_put) := goodIn_app (goodIn_of _ (by decide +kernel)) ggX2_some_X2_put
theorem dX2_some_0 : decode cX2_some 0 = .ok (.iload_n 3, 1) := by decide +kernel
theorem dX2_some_1 : decode cX2_some 1 = .ok (.iconst 1, 1) := by decide +kernel
theorem dX2_some_2 : decode cX2_some 2 = .ok (.if_icmp .lt 9, 3) := by decide +kernel
theorem dX2_some_5 : decode cX2_some 5 = .ok (.iload_n 3, 1) := by decide +kernel
theorem dX2_some_6 : decode cX2_some 6 = .ok (.bipush 60, 2) := by decide +kernel
theorem dX2_some_8 : decode cX2_some 8 = .ok (.if_icmp .le 5, 3) := by decide +kernel
theorem dX2_some_11 : decode cX2_some 11 = .ok (.iconst (-1), 1) := by decide +kernel
theorem dX2_some_12 : decode cX2_some 12 = .ok (.ireturn, 1) := by decide +kernel
theorem dX2_some_13 : decode cX2_some 13 = .ok (.iconst 0, 1) := by decide +kernel
theorem dX2_some_14 : decode cX2_some 14 = .ok (.istore 5, 2) := by decide +kernel
theorem dX2_some_16 : decode cX2_some 16 = .ok (.iconst 0, 1) := by decide +kernel
theorem dX2_some_17 : decode cX2_some 17 = .ok (.istore 6, 2) := by decide +kernel
theorem dX2_some_19 : decode cX2_some 19 = .ok (.iload 6, 2) := by decide +kernel
theorem dX2_some_21 : decode cX2_some 21 = .ok (.iload_n 3, 1) := by decide +kernel
theorem dX2_some_22 : decode cX2_some 22 = .ok (.if_icmp .ge 53, 3) := by decide +kernel
theorem dX2_some_25 : decode cX2_some 25 = .ok (.aload_n 0, 1) := by decide +kernel
theorem dX2_some_26 : decode cX2_some 26 = .ok (.iload_n 1, 1) := by decide +kernel
theorem dX2_some_27 : decode cX2_some 27 = .ok (.iload 6, 2) := by decide +kernel
theorem dX2_some_29 : decode cX2_some 29 = .ok (.iload_n 2, 1) := by decide +kernel
theorem dX2_some_30 : decode cX2_some 30 = .ok (.imul, 1) := by decide +kernel
theorem dX2_some_31 : decode cX2_some 31 = .ok (.iadd, 1) := by decide +kernel
theorem dX2_some_32 : decode cX2_some 32 = .ok (.iload 4, 2) := by decide +kernel
theorem dX2_some_34 : decode cX2_some 34 = .ok (.iload 6, 2) := by decide +kernel
theorem dX2_some_36 : decode cX2_some 36 = .ok (.iadd, 1) := by decide +kernel
theorem dX2_some_37 : decode cX2_some 37 = .ok (.iload 6, 2) := by decide +kernel
theorem dX2_some_39 : decode cX2_some 39 = .ok (.iconst 2, 1) := by decide +kernel
theorem dX2_some_40 : decode cX2_some 40 = .ok (.irem, 1) := by decide +kernel
theorem dX2_some_41 : decode cX2_some 41 = .ok (.ifCond .ne 7, 3) := by decide +kernel
theorem dX2_some_44 : decode cX2_some 44 = .ok (.iconst 0, 1) := by decide +kernel
theorem dX2_some_45 : decode cX2_some 45 = .ok (.goto 14, 3) := by decide +kernel
theorem dX2_some_48 : decode cX2_some 48 = .ok (.iload 4, 2) := by decide +kernel
theorem dX2_some_50 : decode cX2_some 50 = .ok (.bipush 7, 2) := by decide +kernel
theorem dX2_some_52 : decode cX2_some 52 = .ok (.iload 6, 2) := by decide +kernel
theorem dX2_some_54 : decode cX2_some 54 = .ok (.imul, 1) := by decide +kernel
theorem dX2_some_55 : decode cX2_some 55 = .ok (.iadd, 1) := by decide +kernel
theorem dX2_some_56 : decode cX2_some 56 = .ok (.bipush 127, 2) := by decide +kernel
theorem dX2_some_58 : decode cX2_some 58 = .ok (.iand, 1) := by decide +kernel
theorem dX2_some_59 : decode cX2_some 59 = .ok (.invokevirtual 33, 3) := by decide +kernel
theorem dX2_some_62 : decode cX2_some 62 = .ok (.iconst 1, 1) := by decide +kernel
theorem dX2_some_63 : decode cX2_some 63 = .ok (.if_icmp .ne 6, 3) := by decide +kernel
theorem dX2_some_66 : decode cX2_some 66 = .ok (.iinc 5 1, 3) := by decide +kernel
theorem dX2_some_69 : decode cX2_some 69 = .ok (.iinc 6 1, 3) := by decide +kernel
theorem dX2_some_72 : decode cX2_some 72 = .ok (.goto (-53), 3) := by decide +kernel
theorem dX2_some_75 : decode cX2_some 75 = .ok (.iload 5, 2) := by decide +kernel
theorem dX2_some_77 : decode cX2_some 77 = .ok (.ireturn, 1) := by decide +kernel
set_option maxRecDepth 20000 in
theorem ggX2_remove_X2_place : GoodIn wsX2_remove wsX2_place := goodIn_r _ [9, 1, 2, 14, 15, 16, 17, 18, 19] (by decide +kernel) (by decide +kernel)
set_option maxRecDepth 20000 in
theorem gX2_remove_X2_place : GoodIn wsX2_remove (wsV RX2 25 RX2 yX2_place wsX2_place) := goodIn_app (goodIn_of _ (by decide +kernel)) ggX2_remove_X2_place
set_option maxRecDepth 20000 in
theorem ggX2_remove_X2_is : GoodIn wsX2_remove wsX2_is := goodIn_r _ [13, 1, 2, 14, 15, 16, 17, 18, 19] (by decide +kernel) (by decide +kernel)
set_option maxRecDepth 20000 in
theorem gX2_remove_X2_is : GoodIn wsX2_remove (wsV RX2 29 RX2 yX2_is wsX2_is) := goodIn_app (goodIn_of _ (by decide +kernel)) ggX2_remove_X2_is
theorem dX2_remove_0 : decode cX2_remove 0 = .ok (.aload_n 0, 1) := by decide +kernel
theorem dX2_remove_1 : decode cX2_remove 1 = .ok (.iconst 3, 1) := by decide +kernel
theorem dX2_remove_2 : decode cX2_remove 2 = .ok (.iload_n 1, 1) := by decide +kernel
theorem dX2_remove_3 : decode cX2_remove 3 = .ok (.invokevirtual 25, 3) := by decide +kernel
theorem dX2_remove_6 : decode cX2_remove 6 = .ok (.istore_n 2, 1) := by decide +kernel
theorem dX2_remove_7 : decode cX2_remove 7 = .ok (.aload_n 0, 1) := by decide +kernel
theorem dX2_remove_8 : decode cX2_remove 8 = .ok (.iconst 3, 1) := by decide +kernel
theorem dX2_remove_9 : decode cX2_remove 9 = .ok (.iload_n 2, 1) := by decide +kernel
theorem dX2_remove_10 : decode cX2_remove 10 = .ok (.iload_n 1, 1) := by decide +kernel
theorem dX2_remove_11 : decode cX2_remove 11 = .ok (.invokevirtual 29, 3) := by decide +kernel
theorem dX2_remove_14 : decode cX2_remove 14 = .ok (.ifCond .ne 6, 3) := by decide +kernel
theorem dX2_remove_17 : decode cX2_remove 17 = .ok (.bipush (-2), 2) := by decide +kernel
theorem dX2_remove_19 : decode cX2_remove 19 = .ok (.ireturn, 1) := by decide +kernel
theorem dX2_remove_20 : decode cX2_remove 20 = .ok (.aload_n 0, 1) := by decide +kernel
theorem dX2_remove_21 : decode cX2_remove 21 = .ok (.getfield 19, 3) := by decide +kernel
theorem dX2_remove_24 : decode cX2_remove 24 = .ok (.iconst 3, 1) := by decide +kernel
theorem dX2_remove_25 : decode cX2_remove 25 = .ok (.dup2, 1) := by decide +kernel
theorem dX2_remove_26 : decode cX2_remove 26 = .ok (.iaload, 1) := by decide +kernel
theorem dX2_remove_27 : decode cX2_remove 27 = .ok (.iconst 1, 1) := by decide +kernel
theorem dX2_remove_28 : decode cX2_remove 28 = .ok (.isub, 1) := by decide +kernel
theorem dX2_remove_29 : decode cX2_remove 29 = .ok (.iastore, 1) := by decide +kernel
theorem dX2_remove_30 : decode cX2_remove 30 = .ok (.iload_n 2, 1) := by decide +kernel
theorem dX2_remove_31 : decode cX2_remove 31 = .ok (.istore_n 3, 1) := by decide +kernel
theorem dX2_remove_32 : decode cX2_remove 32 = .ok (.iload_n 3, 1) := by decide +kernel
theorem dX2_remove_33 : decode cX2_remove 33 = .ok (.sipush 1200, 3) := by decide +kernel
theorem dX2_remove_36 : decode cX2_remove 36 = .ok (.aload_n 0, 1) := by decide +kernel
theorem dX2_remove_37 : decode cX2_remove 37 = .ok (.getfield 19, 3) := by decide +kernel
theorem dX2_remove_40 : decode cX2_remove 40 = .ok (.iconst 3, 1) := by decide +kernel
theorem dX2_remove_41 : decode cX2_remove 41 = .ok (.iaload, 1) := by decide +kernel
theorem dX2_remove_42 : decode cX2_remove 42 = .ok (.iadd, 1) := by decide +kernel
theorem dX2_remove_43 : decode cX2_remove 43 = .ok (.if_icmp .ge 51, 3) := by decide +kernel
theorem dX2_remove_46 : decode cX2_remove 46 = .ok (.aload_n 0, 1) := by decide +kernel
theorem dX2_remove_47 : decode cX2_remove 47 = .ok (.getfield 9, 3) := by decide +kernel
theorem dX2_remove_50 : decode cX2_remove 50 = .ok (.iload_n 3, 1) := by decide +kernel
theorem dX2_remove_51 : decode cX2_remove 51 = .ok (.aload_n 0, 1) := by decide +kernel
theorem dX2_remove_52 : decode cX2_remove 52 = .ok (.getfield 9, 3) := by decide +kernel
theorem dX2_remove_55 : decode cX2_remove 55 = .ok (.iload_n 3, 1) := by decide +kernel
theorem dX2_remove_56 : decode cX2_remove 56 = .ok (.iconst 1, 1) := by decide +kernel
theorem dX2_remove_57 : decode cX2_remove 57 = .ok (.iadd, 1) := by decide +kernel
theorem dX2_remove_58 : decode cX2_remove 58 = .ok (.iaload, 1) := by decide +kernel
theorem dX2_remove_59 : decode cX2_remove 59 = .ok (.iastore, 1) := by decide +kernel
theorem dX2_remove_60 : decode cX2_remove 60 = .ok (.aload_n 0, 1) := by decide +kernel
theorem dX2_remove_61 : decode cX2_remove 61 = .ok (.getfield 13, 3) := by decide +kernel
theorem dX2_remove_64 : decode cX2_remove 64 = .ok (.iload_n 3, 1) := by decide +kernel
theorem dX2_remove_65 : decode cX2_remove 65 = .ok (.aload_n 0, 1) := by decide +kernel
theorem dX2_remove_66 : decode cX2_remove 66 = .ok (.getfield 13, 3) := by decide +kernel
theorem dX2_remove_69 : decode cX2_remove 69 = .ok (.iload_n 3, 1) := by decide +kernel
theorem dX2_remove_70 : decode cX2_remove 70 = .ok (.iconst 1, 1) := by decide +kernel
theorem dX2_remove_71 : decode cX2_remove 71 = .ok (.iadd, 1) := by decide +kernel
theorem dX2_remove_72 : decode cX2_remove 72 = .ok (.iaload, 1) := by decide +kernel
theorem dX2_remove_73 : decode cX2_remove 73 = .ok (.iastore, 1) := by decide +kernel
theorem dX2_remove_74 : decode cX2_remove 74 = .ok (.aload_n 0, 1) := by decide +kernel
theorem dX2_remove_75 : decode cX2_remove 75 = .ok (.getfield 16, 3) := by decide +kernel
theorem dX2_remove_78 : decode cX2_remove 78 = .ok (.iload_n 3, 1) := by decide +kernel
theorem dX2_remove_79 : decode cX2_remove 79 = .ok (.aload_n 0, 1) := by decide +kernel
theorem dX2_remove_80 : decode cX2_remove 80 = .ok (.getfield 16, 3) := by decide +kernel
theorem dX2_remove_83 : decode cX2_remove 83 = .ok (.iload_n 3, 1) := by decide +kernel
theorem dX2_remove_84 : decode cX2_remove 84 = .ok (.iconst 1, 1) := by decide +kernel
theorem dX2_remove_85 : decode cX2_remove 85 = .ok (.iadd, 1) := by decide +kernel
theorem dX2_remove_86 : decode cX2_remove 86 = .ok (.iaload, 1) := by decide +kernel
theorem dX2_remove_87 : decode cX2_remove 87 = .ok (.iastore, 1) := by decide +kernel
theorem dX2_remove_88 : decode cX2_remove 88 = .ok (.iinc 3 1, 3) := by decide +kernel
theorem dX2_remove_91 : decode cX2_remove 91 = .ok (.goto (-59), 3) := by decide +kernel
theorem dX2_remove_94 : decode cX2_remove 94 = .ok (.aload_n 0, 1) := by decide +kernel
theorem dX2_remove_95 : decode cX2_remove 95 = .ok (.getfield 19, 3) := by decide +kernel
theorem dX2_remove_98 : decode cX2_remove 98 = .ok (.iconst 3, 1) := by decide +kernel
theorem dX2_remove_99 : decode cX2_remove 99 = .ok (.iaload, 1) := by decide +kernel
theorem dX2_remove_100 : decode cX2_remove 100 = .ok (.ireturn, 1) := by decide +kernel
set_option maxRecDepth 20000 in
theorem ggX2_commit_X2_copy : GoodIn wsX2_commit wsX2_copy := goodIn_r _ [6, 7, 8, 9, 10, 11, 12, 13, 14, 15, 16] (by decide +kernel) (by decide +kernel)
set_option maxRecDepth 20000 in
theorem gX2_commit_X2_copy : GoodIn wsX2_commit (wsV RX2 41 RX2 yX2_copy wsX2_copy) := goodIn_app (goodIn_of _ (by decide +kernel)) ggX2_commit_X2_copy
theorem dX2_commit_0 : decode cX2_commit 0 = .ok (.iload_n 1, 1) := by decide +kernel
theorem dX2_commit_1 : decode cX2_commit 1 = .ok (.ifCond .lt 17, 3) := by decide +kernel
theorem dX2_commit_4 : decode cX2_commit 4 = .ok (.aload_n 0, 1) := by decide +kernel
theorem dX2_commit_5 : decode cX2_commit 5 = .ok (.aload_n 0, 1) := by decide +kernel
theorem dX2_commit_6 : decode cX2_commit 6 = .ok (.getfield 37, 3) := by decide +kernel
theorem dX2_commit_9 : decode cX2_commit 9 = .ok (.iconst 3, 1) := by decide +kernel
theorem dX2_commit_10 : decode cX2_commit 10 = .ok (.irem, 1) := by decide +kernel
theorem dX2_commit_11 : decode cX2_commit 11 = .ok (.iconst 3, 1) := by decide +kernel
theorem dX2_commit_12 : decode cX2_commit 12 = .ok (.invokevirtual 41, 3) := by decide +kernel
theorem dX2_commit_15 : decode cX2_commit 15 = .ok (.bipush (-5), 2) := by decide +kernel
theorem dX2_commit_17 : decode cX2_commit 17 = .ok (.ireturn, 1) := by decide +kernel
theorem dX2_commit_18 : decode cX2_commit 18 = .ok (.aload_n 0, 1) := by decide +kernel
theorem dX2_commit_19 : decode cX2_commit 19 = .ok (.dup, 1) := by decide +kernel
theorem dX2_commit_20 : decode cX2_commit 20 = .ok (.getfield 37, 3) := by decide +kernel
theorem dX2_commit_23 : decode cX2_commit 23 = .ok (.iconst 1, 1) := by decide +kernel
theorem dX2_commit_24 : decode cX2_commit 24 = .ok (.iadd, 1) := by decide +kernel
theorem dX2_commit_25 : decode cX2_commit 25 = .ok (.putfield 37, 3) := by decide +kernel
theorem dX2_commit_28 : decode cX2_commit 28 = .ok (.aload_n 0, 1) := by decide +kernel
theorem dX2_commit_29 : decode cX2_commit 29 = .ok (.iconst 3, 1) := by decide +kernel
theorem dX2_commit_30 : decode cX2_commit 30 = .ok (.aload_n 0, 1) := by decide +kernel
theorem dX2_commit_31 : decode cX2_commit 31 = .ok (.getfield 37, 3) := by decide +kernel
theorem dX2_commit_34 : decode cX2_commit 34 = .ok (.iconst 3, 1) := by decide +kernel
theorem dX2_commit_35 : decode cX2_commit 35 = .ok (.irem, 1) := by decide +kernel
theorem dX2_commit_36 : decode cX2_commit 36 = .ok (.invokevirtual 41, 3) := by decide +kernel
theorem dX2_commit_39 : decode cX2_commit 39 = .ok (.aload_n 0, 1) := by decide +kernel
theorem dX2_commit_40 : decode cX2_commit 40 = .ok (.getfield 37, 3) := by decide +kernel
theorem dX2_commit_43 : decode cX2_commit 43 = .ok (.ireturn, 1) := by decide +kernel
set_option maxRecDepth 20000 in
theorem ggX2_forget_X2_copy : GoodIn wsX2_forget wsX2_copy := goodIn_r _ [7, 2, 8, 9, 10, 11, 12, 13, 14, 15, 16] (by decide +kernel) (by decide +kernel)
set_option maxRecDepth 20000 in
theorem gX2_forget_X2_copy : GoodIn wsX2_forget (wsV RX2 41 RX2 yX2_copy wsX2_copy) := goodIn_app (goodIn_of _ (by decide +kernel)) ggX2_forget_X2_copy
theorem dX2_forget_0 : decode cX2_forget 0 = .ok (.aload_n 0, 1) := by decide +kernel
theorem dX2_forget_1 : decode cX2_forget 1 = .ok (.aload_n 0, 1) := by decide +kernel
theorem dX2_forget_2 : decode cX2_forget 2 = .ok (.getfield 37, 3) := by decide +kernel
theorem dX2_forget_5 : decode cX2_forget 5 = .ok (.iconst 3, 1) := by decide +kernel
theorem dX2_forget_6 : decode cX2_forget 6 = .ok (.irem, 1) := by decide +kernel
theorem dX2_forget_7 : decode cX2_forget 7 = .ok (.iconst 3, 1) := by decide +kernel
theorem dX2_forget_8 : decode cX2_forget 8 = .ok (.invokevirtual 41, 3) := by decide +kernel
theorem dX2_forget_11 : decode cX2_forget 11 = .ok (.aload_n 0, 1) := by decide +kernel
theorem dX2_forget_12 : decode cX2_forget 12 = .ok (.getfield 19, 3) := by decide +kernel
theorem dX2_forget_15 : decode cX2_forget 15 = .ok (.iconst 3, 1) := by decide +kernel
theorem dX2_forget_16 : decode cX2_forget 16 = .ok (.iaload, 1) := by decide +kernel
theorem dX2_forget_17 : decode cX2_forget 17 = .ok (.ireturn, 1) := by decide +kernel
theorem dX2_open_0 : decode cX2_open 0 = .ok (.iload_n 1, 1) := by decide +kernel
theorem dX2_open_1 : decode cX2_open 1 = .ok (.ifCond .lt 8, 3) := by decide +kernel
theorem dX2_open_4 : decode cX2_open 4 = .ok (.iload_n 1, 1) := by decide +kernel
theorem dX2_open_5 : decode cX2_open 5 = .ok (.iconst 3, 1) := by decide +kernel
theorem dX2_open_6 : decode cX2_open 6 = .ok (.if_icmp .le 5, 3) := by decide +kernel
theorem dX2_open_9 : decode cX2_open 9 = .ok (.iconst (-1), 1) := by decide +kernel
theorem dX2_open_10 : decode cX2_open 10 = .ok (.ireturn, 1) := by decide +kernel
theorem dX2_open_11 : decode cX2_open 11 = .ok (.aload_n 0, 1) := by decide +kernel
theorem dX2_open_12 : decode cX2_open 12 = .ok (.getfield 22, 3) := by decide +kernel
theorem dX2_open_15 : decode cX2_open 15 = .ok (.iload_n 1, 1) := by decide +kernel
theorem dX2_open_16 : decode cX2_open 16 = .ok (.aload_n 0, 1) := by decide +kernel
theorem dX2_open_17 : decode cX2_open 17 = .ok (.getfield 37, 3) := by decide +kernel
theorem dX2_open_20 : decode cX2_open 20 = .ok (.iastore, 1) := by decide +kernel
theorem dX2_open_21 : decode cX2_open 21 = .ok (.aload_n 0, 1) := by decide +kernel
theorem dX2_open_22 : decode cX2_open 22 = .ok (.getfield 37, 3) := by decide +kernel
theorem dX2_open_25 : decode cX2_open 25 = .ok (.ireturn, 1) := by decide +kernel
theorem dX2_table_0 : decode cX2_table 0 = .ok (.iload_n 1, 1) := by decide +kernel
theorem dX2_table_1 : decode cX2_table 1 = .ok (.iconst (-1), 1) := by decide +kernel
theorem dX2_table_2 : decode cX2_table 2 = .ok (.if_icmp .lt 8, 3) := by decide +kernel
theorem dX2_table_5 : decode cX2_table 5 = .ok (.iload_n 1, 1) := by decide +kernel
theorem dX2_table_6 : decode cX2_table 6 = .ok (.iconst 3, 1) := by decide +kernel
theorem dX2_table_7 : decode cX2_table 7 = .ok (.if_icmp .le 5, 3) := by decide +kernel
theorem dX2_table_10 : decode cX2_table 10 = .ok (.iconst (-1), 1) := by decide +kernel
theorem dX2_table_11 : decode cX2_table 11 = .ok (.ireturn, 1) := by decide +kernel
theorem dX2_table_12 : decode cX2_table 12 = .ok (.iload_n 1, 1) := by decide +kernel
theorem dX2_table_13 : decode cX2_table 13 = .ok (.ifCond .ge 5, 3) := by decide +kernel
theorem dX2_table_16 : decode cX2_table 16 = .ok (.iconst 3, 1) := by decide +kernel
theorem dX2_table_17 : decode cX2_table 17 = .ok (.ireturn, 1) := by decide +kernel
theorem dX2_table_18 : decode cX2_table 18 = .ok (.aload_n 0, 1) := by decide +kernel
theorem dX2_table_19 : decode cX2_table 19 = .ok (.getfield 22, 3) := by decide +kernel
theorem dX2_table_22 : decode cX2_table 22 = .ok (.iload_n 1, 1) := by decide +kernel
theorem dX2_table_23 : decode cX2_table 23 = .ok (.iaload, 1) := by decide +kernel
theorem dX2_table_24 : decode cX2_table 24 = .ok (.aload_n 0, 1) := by decide +kernel
theorem dX2_table_25 : decode cX2_table 25 = .ok (.getfield 37, 3) := by decide +kernel
theorem dX2_table_28 : decode cX2_table 28 = .ok (.iconst 2, 1) := by decide +kernel
theorem dX2_table_29 : decode cX2_table 29 = .ok (.isub, 1) := by decide +kernel
theorem dX2_table_30 : decode cX2_table 30 = .ok (.if_icmp .ge 8, 3) := by decide +kernel
theorem dX2_table_33 : decode cX2_table 33 = .ok (.bipush (-4), 2) := by decide +kernel
theorem dX2_table_35 : decode cX2_table 35 = .ok (.goto 11, 3) := by decide +kernel
theorem dX2_table_38 : decode cX2_table 38 = .ok (.aload_n 0, 1) := by decide +kernel
theorem dX2_table_39 : decode cX2_table 39 = .ok (.getfield 22, 3) := by decide +kernel
theorem dX2_table_42 : decode cX2_table 42 = .ok (.iload_n 1, 1) := by decide +kernel
theorem dX2_table_43 : decode cX2_table 43 = .ok (.iaload, 1) := by decide +kernel
theorem dX2_table_44 : decode cX2_table 44 = .ok (.iconst 3, 1) := by decide +kernel
theorem dX2_table_45 : decode cX2_table 45 = .ok (.irem, 1) := by decide +kernel
theorem dX2_table_46 : decode cX2_table 46 = .ok (.ireturn, 1) := by decide +kernel
set_option maxRecDepth 20000 in
theorem ggX2_get_X2_table : GoodIn wsX2_get wsX2_table := goodIn_r _ [8, 9, 10, 21, 22, 23, 24, 25, 26] (by decide +kernel) (by decide +kernel)
set_option maxRecDepth 20000 in
theorem gX2_get_X2_table : GoodIn wsX2_get (wsV RX2 45 RX2 yX2_table wsX2_table) := goodIn_app (goodIn_of _ (by decide +kernel)) ggX2_get_X2_table
set_option maxRecDepth 20000 in
theorem ggX2_get_X2_place : GoodIn wsX2_get wsX2_place := goodIn_r _ [14, 15, 16, 21, 22, 23, 24, 25, 26] (by decide +kernel) (by decide +kernel)
set_option maxRecDepth 20000 in
theorem gX2_get_X2_place : GoodIn wsX2_get (wsV RX2 25 RX2 yX2_place wsX2_place) := goodIn_app (goodIn_of _ (by decide +kernel)) ggX2_get_X2_place
set_option maxRecDepth 20000 in
theorem ggX2_get_X2_is : GoodIn wsX2_get wsX2_is := goodIn_r _ [20, 15, 16, 21, 22, 23, 24, 25, 26] (by decide +kernel) (by decide +kernel)
set_option maxRecDepth 20000 in
theorem gX2_get_X2_is : GoodIn wsX2_get (wsV RX2 29 RX2 yX2_is wsX2_is) := goodIn_app (goodIn_of _ (by decide +kernel)) ggX2_get_X2_is
theorem dX2_get_0 : decode cX2_get 0 = .ok (.aload_n 0, 1) := by decide +kernel
theorem dX2_get_1 : decode cX2_get 1 = .ok (.iload_n 1, 1) := by decide +kernel
theorem dX2_get_2 : decode cX2_get 2 = .ok (.invokevirtual 45, 3) := by decide +kernel
theorem dX2_get_5 : decode cX2_get 5 = .ok (.istore_n 3, 1) := by decide +kernel
theorem dX2_get_6 : decode cX2_get 6 = .ok (.iload_n 3, 1) := by decide +kernel
theorem dX2_get_7 : decode cX2_get 7 = .ok (.ifCond .ge 10, 3) := by decide +kernel
theorem dX2_get_10 : decode cX2_get 10 = .ok (.ldc2_w 49, 3) := by decide +kernel
theorem dX2_get_13 : decode cX2_get 13 = .ok (.iload_n 3, 1) := by decide +kernel
theorem dX2_get_14 : decode cX2_get 14 = .ok (.i2l, 1) := by decide +kernel
theorem dX2_get_15 : decode cX2_get 15 = .ok (.ladd, 1) := by decide +kernel
theorem dX2_get_16 : decode cX2_get 16 = .ok (.lreturn, 1) := by decide +kernel
theorem dX2_get_17 : decode cX2_get 17 = .ok (.aload_n 0, 1) := by decide +kernel
theorem dX2_get_18 : decode cX2_get 18 = .ok (.iload_n 3, 1) := by decide +kernel
theorem dX2_get_19 : decode cX2_get 19 = .ok (.iload_n 2, 1) := by decide +kernel
theorem dX2_get_20 : decode cX2_get 20 = .ok (.invokevirtual 25, 3) := by decide +kernel
theorem dX2_get_23 : decode cX2_get 23 = .ok (.istore 4, 2) := by decide +kernel
theorem dX2_get_25 : decode cX2_get 25 = .ok (.aload_n 0, 1) := by decide +kernel
theorem dX2_get_26 : decode cX2_get 26 = .ok (.iload_n 3, 1) := by decide +kernel
theorem dX2_get_27 : decode cX2_get 27 = .ok (.iload 4, 2) := by decide +kernel
theorem dX2_get_29 : decode cX2_get 29 = .ok (.iload_n 2, 1) := by decide +kernel
theorem dX2_get_30 : decode cX2_get 30 = .ok (.invokevirtual 29, 3) := by decide +kernel
theorem dX2_get_33 : decode cX2_get 33 = .ok (.ifCond .eq 14, 3) := by decide +kernel
theorem dX2_get_36 : decode cX2_get 36 = .ok (.aload_n 0, 1) := by decide +kernel
theorem dX2_get_37 : decode cX2_get 37 = .ok (.getfield 13, 3) := by decide +kernel
theorem dX2_get_40 : decode cX2_get 40 = .ok (.iload 4, 2) := by decide +kernel
theorem dX2_get_42 : decode cX2_get 42 = .ok (.iaload, 1) := by decide +kernel
theorem dX2_get_43 : decode cX2_get 43 = .ok (.i2l, 1) := by decide +kernel
theorem dX2_get_44 : decode cX2_get 44 = .ok (.goto 6, 3) := by decide +kernel
theorem dX2_get_47 : decode cX2_get 47 = .ok (.ldc2_w 51, 3) := by decide +kernel
theorem dX2_get_50 : decode cX2_get 50 = .ok (.lreturn, 1) := by decide +kernel
set_option maxRecDepth 20000 in
theorem ggX2_next_X2_table : GoodIn wsX2_next wsX2_table := goodIn_r _ [9, 10, 11, 20, 21, 22, 23, 24, 25] (by decide +kernel) (by decide +kernel)
set_option maxRecDepth 20000 in
theorem gX2_next_X2_table : GoodIn wsX2_next (wsV RX2 45 RX2 yX2_table wsX2_table) := goodIn_app (goodIn_of _ (by decide +kernel)) ggX2_next_X2_table
set_option maxRecDepth 20000 in
theorem ggX2_next_X2_place : GoodIn wsX2_next wsX2_place := goodIn_r _ [15, 2, 3, 20, 21, 22, 23, 24, 25] (by decide +kernel) (by decide +kernel)
set_option maxRecDepth 20000 in
theorem gX2_next_X2_place : GoodIn wsX2_next (wsV RX2 25 RX2 yX2_place wsX2_place) := goodIn_app (goodIn_of _ (by decide +kernel)) ggX2_next_X2_place
set_option maxRecDepth 20000 in
theorem ggX2_next_X2_is : GoodIn wsX2_next wsX2_is := goodIn_r _ [19, 2, 3, 20, 21, 22, 23, 24, 25] (by decide +kernel) (by decide +kernel)
set_option maxRecDepth 20000 in
theorem gX2_next_X2_is : GoodIn wsX2_next (wsV RX2 29 RX2 yX2_is wsX2_is) := goodIn_app (goodIn_of _ (by decide +kernel)) ggX2_next_X2_is
theorem dX2_next_0 : decode cX2_next 0 = .ok (.aload_n 0, 1) := by decide +kernel
theorem dX2_next_1 : decode cX2_next 1 = .ok (.iload_n 1, 1) := by decide +kernel
theorem dX2_next_2 : decode cX2_next 2 = .ok (.invokevirtual 45, 3) := by decide +kernel
theorem dX2_next_5 : decode cX2_next 5 = .ok (.istore_n 3, 1) := by decide +kernel
theorem dX2_next_6 : decode cX2_next 6 = .ok (.iload_n 3, 1) := by decide +kernel
theorem dX2_next_7 : decode cX2_next 7 = .ok (.ifCond .ge 10, 3) := by decide +kernel
theorem dX2_next_10 : decode cX2_next 10 = .ok (.ldc2_w 49, 3) := by decide +kernel
theorem dX2_next_13 : decode cX2_next 13 = .ok (.iload_n 3, 1) := by decide +kernel
theorem dX2_next_14 : decode cX2_next 14 = .ok (.i2l, 1) := by decide +kernel
theorem dX2_next_15 : decode cX2_next 15 = .ok (.ladd, 1) := by decide +kernel
theorem dX2_next_16 : decode cX2_next 16 = .ok (.lreturn, 1) := by decide +kernel
theorem dX2_next_17 : decode cX2_next 17 = .ok (.aload_n 0, 1) := by decide +kernel
theorem dX2_next_18 : decode cX2_next 18 = .ok (.iload_n 3, 1) := by decide +kernel
theorem dX2_next_19 : decode cX2_next 19 = .ok (.iload_n 2, 1) := by decide +kernel
theorem dX2_next_20 : decode cX2_next 20 = .ok (.invokevirtual 25, 3) := by decide +kernel
theorem dX2_next_23 : decode cX2_next 23 = .ok (.istore 4, 2) := by decide +kernel
theorem dX2_next_25 : decode cX2_next 25 = .ok (.aload_n 0, 1) := by decide +kernel
theorem dX2_next_26 : decode cX2_next 26 = .ok (.iload_n 3, 1) := by decide +kernel
theorem dX2_next_27 : decode cX2_next 27 = .ok (.iload 4, 2) := by decide +kernel
theorem dX2_next_29 : decode cX2_next 29 = .ok (.iload_n 2, 1) := by decide +kernel
theorem dX2_next_30 : decode cX2_next 30 = .ok (.invokevirtual 29, 3) := by decide +kernel
theorem dX2_next_33 : decode cX2_next 33 = .ok (.ifCond .eq 6, 3) := by decide +kernel
theorem dX2_next_36 : decode cX2_next 36 = .ok (.iinc 4 1, 3) := by decide +kernel
theorem dX2_next_39 : decode cX2_next 39 = .ok (.iload 4, 2) := by decide +kernel
theorem dX2_next_41 : decode cX2_next 41 = .ok (.sipush 400, 3) := by decide +kernel
theorem dX2_next_44 : decode cX2_next 44 = .ok (.iload_n 3, 1) := by decide +kernel
theorem dX2_next_45 : decode cX2_next 45 = .ok (.imul, 1) := by decide +kernel
theorem dX2_next_46 : decode cX2_next 46 = .ok (.aload_n 0, 1) := by decide +kernel
theorem dX2_next_47 : decode cX2_next 47 = .ok (.getfield 19, 3) := by decide +kernel
theorem dX2_next_50 : decode cX2_next 50 = .ok (.iload_n 3, 1) := by decide +kernel
theorem dX2_next_51 : decode cX2_next 51 = .ok (.iaload, 1) := by decide +kernel
theorem dX2_next_52 : decode cX2_next 52 = .ok (.iadd, 1) := by decide +kernel
theorem dX2_next_53 : decode cX2_next 53 = .ok (.if_icmp .ge 14, 3) := by decide +kernel
theorem dX2_next_56 : decode cX2_next 56 = .ok (.aload_n 0, 1) := by decide +kernel
theorem dX2_next_57 : decode cX2_next 57 = .ok (.getfield 9, 3) := by decide +kernel
theorem dX2_next_60 : decode cX2_next 60 = .ok (.iload 4, 2) := by decide +kernel
theorem dX2_next_62 : decode cX2_next 62 = .ok (.iaload, 1) := by decide +kernel
theorem dX2_next_63 : decode cX2_next 63 = .ok (.i2l, 1) := by decide +kernel
theorem dX2_next_64 : decode cX2_next 64 = .ok (.goto 6, 3) := by decide +kernel
theorem dX2_next_67 : decode cX2_next 67 = .ok (.ldc2_w 51, 3) := by decide +kernel
theorem dX2_next_70 : decode cX2_next 70 = .ok (.lreturn, 1) := by decide +kernel
set_option maxRecDepth 20000 in
theorem ggX2_size_X2_table : GoodIn wsX2_size wsX2_table := goodIn_r _ [6, 7, 8, 19, 20, 21, 22, 23, 24] (by decide +kernel) (by decide +kernel)
set_option maxRecDepth 20000 in
theorem gX2_size_X2_table : GoodIn wsX2_size (wsV RX2 45 RX2 yX2_table wsX2_table) := goodIn_app (goodIn_of _ (by decide +kernel)) ggX2_size_X2_table
set_option maxRecDepth 20000 in
theorem ggX2_size_X2_place : GoodIn wsX2_size wsX2_place := goodIn_r _ [12, 13, 14, 19, 20, 21, 22, 23, 24] (by decide +kernel) (by decide +kernel)
set_option maxRecDepth 20000 in
theorem gX2_size_X2_place : GoodIn wsX2_size (wsV RX2 25 RX2 yX2_place wsX2_place) := goodIn_app (goodIn_of _ (by decide +kernel)) ggX2_size_X2_place
set_option maxRecDepth 20000 in
theorem ggX2_size_X2_is : GoodIn wsX2_size wsX2_is := goodIn_r _ [18, 13, 14, 19, 20, 21, 22, 23, 24] (by decide +kernel) (by decide +kernel)
set_option maxRecDepth 20000 in
theorem gX2_size_X2_is : GoodIn wsX2_size (wsV RX2 29 RX2 yX2_is wsX2_is) := goodIn_app (goodIn_of _ (by decide +kernel)) ggX2_size_X2_is
theorem dX2_size_0 : decode cX2_size 0 = .ok (.aload_n 0, 1) := by decide +kernel
theorem dX2_size_1 : decode cX2_size 1 = .ok (.iload_n 1, 1) := by decide +kernel
theorem dX2_size_2 : decode cX2_size 2 = .ok (.invokevirtual 45, 3) := by decide +kernel
theorem dX2_size_5 : decode cX2_size 5 = .ok (.istore_n 3, 1) := by decide +kernel
theorem dX2_size_6 : decode cX2_size 6 = .ok (.iload_n 3, 1) := by decide +kernel
theorem dX2_size_7 : decode cX2_size 7 = .ok (.ifCond .ge 5, 3) := by decide +kernel
theorem dX2_size_10 : decode cX2_size 10 = .ok (.iload_n 3, 1) := by decide +kernel
theorem dX2_size_11 : decode cX2_size 11 = .ok (.ireturn, 1) := by decide +kernel
theorem dX2_size_12 : decode cX2_size 12 = .ok (.aload_n 0, 1) := by decide +kernel
theorem dX2_size_13 : decode cX2_size 13 = .ok (.iload_n 3, 1) := by decide +kernel
theorem dX2_size_14 : decode cX2_size 14 = .ok (.iload_n 2, 1) := by decide +kernel
theorem dX2_size_15 : decode cX2_size 15 = .ok (.invokevirtual 25, 3) := by decide +kernel
theorem dX2_size_18 : decode cX2_size 18 = .ok (.istore 4, 2) := by decide +kernel
theorem dX2_size_20 : decode cX2_size 20 = .ok (.aload_n 0, 1) := by decide +kernel
theorem dX2_size_21 : decode cX2_size 21 = .ok (.iload_n 3, 1) := by decide +kernel
theorem dX2_size_22 : decode cX2_size 22 = .ok (.iload 4, 2) := by decide +kernel
theorem dX2_size_24 : decode cX2_size 24 = .ok (.iload_n 2, 1) := by decide +kernel
theorem dX2_size_25 : decode cX2_size 25 = .ok (.invokevirtual 29, 3) := by decide +kernel
theorem dX2_size_28 : decode cX2_size 28 = .ok (.ifCond .eq 13, 3) := by decide +kernel
theorem dX2_size_31 : decode cX2_size 31 = .ok (.aload_n 0, 1) := by decide +kernel
theorem dX2_size_32 : decode cX2_size 32 = .ok (.getfield 16, 3) := by decide +kernel
theorem dX2_size_35 : decode cX2_size 35 = .ok (.iload 4, 2) := by decide +kernel
theorem dX2_size_37 : decode cX2_size 37 = .ok (.iaload, 1) := by decide +kernel
theorem dX2_size_38 : decode cX2_size 38 = .ok (.goto 5, 3) := by decide +kernel
theorem dX2_size_41 : decode cX2_size 41 = .ok (.bipush (-2), 2) := by decide +kernel
theorem dX2_size_43 : decode cX2_size 43 = .ok (.ireturn, 1) := by decide +kernel
set_option maxRecDepth 20000 in
theorem ggX2_count_X2_table : GoodIn wsX2_count wsX2_table := goodIn_r _ [6, 7, 8, 9, 10, 11, 12, 13, 14] (by decide +kernel) (by decide +kernel)
set_option maxRecDepth 20000 in
theorem gX2_count_X2_table : GoodIn wsX2_count (wsV RX2 45 RX2 yX2_table wsX2_table) := goodIn_app (goodIn_of _ (by decide +kernel)) ggX2_count_X2_table
theorem dX2_count_0 : decode cX2_count 0 = .ok (.aload_n 0, 1) := by decide +kernel
theorem dX2_count_1 : decode cX2_count 1 = .ok (.iload_n 1, 1) := by decide +kernel
theorem dX2_count_2 : decode cX2_count 2 = .ok (.invokevirtual 45, 3) := by decide +kernel
theorem dX2_count_5 : decode cX2_count 5 = .ok (.istore_n 2, 1) := by decide +kernel
theorem dX2_count_6 : decode cX2_count 6 = .ok (.iload_n 2, 1) := by decide +kernel
theorem dX2_count_7 : decode cX2_count 7 = .ok (.ifCond .ge 7, 3) := by decide +kernel
theorem dX2_count_10 : decode cX2_count 10 = .ok (.iload_n 2, 1) := by decide +kernel
theorem dX2_count_11 : decode cX2_count 11 = .ok (.goto 9, 3) := by decide +kernel
theorem dX2_count_14 : decode cX2_count 14 = .ok (.aload_n 0, 1) := by decide +kernel
theorem dX2_count_15 : decode cX2_count 15 = .ok (.getfield 19, 3) := by decide +kernel
theorem dX2_count_18 : decode cX2_count 18 = .ok (.iload_n 2, 1) := by decide +kernel
theorem dX2_count_19 : decode cX2_count 19 = .ok (.iaload, 1) := by decide +kernel
theorem dX2_count_20 : decode cX2_count 20 = .ok (.ireturn, 1) := by decide +kernel
theorem dJ9_floorMod_7cf53_0 : decode cJ9_floorMod_7cf53 0 = .ok (.iload_n 0, 1) := by decide +kernel
theorem dJ9_floorMod_7cf53_1 : decode cJ9_floorMod_7cf53 1 = .ok (.iload_n 1, 1) := by decide +kernel
theorem dJ9_floorMod_7cf53_2 : decode cJ9_floorMod_7cf53 2 = .ok (.irem, 1) := by decide +kernel
theorem dJ9_floorMod_7cf53_3 : decode cJ9_floorMod_7cf53 3 = .ok (.istore_n 2, 1) := by decide +kernel
theorem dJ9_floorMod_7cf53_4 : decode cJ9_floorMod_7cf53 4 = .ok (.iload_n 0, 1) := by decide +kernel
theorem dJ9_floorMod_7cf53_5 : decode cJ9_floorMod_7cf53 5 = .ok (.iload_n 1, 1) := by decide +kernel
theorem dJ9_floorMod_7cf53_6 : decode cJ9_floorMod_7cf53 6 = .ok (.ixor, 1) := by decide +kernel
theorem dJ9_floorMod_7cf53_7 : decode cJ9_floorMod_7cf53 7 = .ok (.ifCond .ge 11, 3) := by decide +kernel
theorem dJ9_floorMod_7cf53_10 : decode cJ9_floorMod_7cf53 10 = .ok (.iload_n 2, 1) := by decide +kernel
theorem dJ9_floorMod_7cf53_11 : decode cJ9_floorMod_7cf53 11 = .ok (.ifCond .eq 7, 3) := by decide +kernel
theorem dJ9_floorMod_7cf53_14 : decode cJ9_floorMod_7cf53 14 = .ok (.iload_n 2, 1) := by decide +kernel
theorem dJ9_floorMod_7cf53_15 : decode cJ9_floorMod_7cf53 15 = .ok (.iload_n 1, 1) := by decide +kernel
theorem dJ9_floorMod_7cf53_16 : decode cJ9_floorMod_7cf53 16 = .ok (.iadd, 1) := by decide +kernel
theorem dJ9_floorMod_7cf53_17 : decode cJ9_floorMod_7cf53 17 = .ok (.ireturn, 1) := by decide +kernel
theorem dJ9_floorMod_7cf53_18 : decode cJ9_floorMod_7cf53 18 = .ok (.iload_n 2, 1) := by decide +kernel
theorem dJ9_floorMod_7cf53_19 : decode cJ9_floorMod_7cf53 19 = .ok (.ireturn, 1) := by decide +kernel
set_option maxRecDepth 20000 in
theorem ggL_law_X1_init : GoodIn wsL_law wsX1_init := goodIn_r _ [8, 9, 10, 11, 12, 13, 14, 15, 16, 17, 18, 19, 20, 21, 22, 23, 24, 25, 26, 213, 214, 215, 216, 203, 204, 205, 206] (by decide +kernel) (by decide +kernel)
set_option maxRecDepth 20000 in
theorem gL_law_X1_init : GoodIn wsL_law (wsX1_init) := ggL_law_X1_init
set_option maxRecDepth 20000 in
theorem ggL_law_X2_init : GoodIn wsL_law wsX2_init := goodIn_r _ [29, 30, 10, 11, 17, 31, 32, 33, 34, 35, 207, 208, 209, 210, 211, 212] (by decide +kernel) (by decide +kernel)
set_option maxRecDepth 20000 in
theorem gL_law_X2_init : GoodIn wsL_law (wsX2_init) := ggL_law_X2_init
set_option maxRecDepth 20000 in
theorem ggL_law_X1_put : GoodIn wsL_law wsX1_put := goodIn_r _ [39, 15, 40, 41, 42, 14, 43, 26, 23, 24, 25, 44, 45, 46, 47, 48, 49, 50, 51, 52, 53, 54, 55, 56, 57, 58, 59, 203, 204, 205, 206, 213, 214, 215, 216] (by decide +kernel) (by decide +kernel)
set_option maxRecDepth 20000 in
theorem gL_law_X1_put : GoodIn wsL_law (wsV RL 13 RX1 yX1_put wsX1_put) := goodIn_app (goodIn_of _ (by decide +kernel)) ggL_law_X1_put
set_option maxRecDepth 20000 in
theorem ggL_law_X2_put : GoodIn wsL_law wsX2_put := goodIn_r _ [63, 34, 31, 32, 33, 64, 65, 66, 5, 67, 68, 69, 70, 71, 207, 208, 209, 210, 211, 212] (by decide +kernel) (by decide +kernel)
set_option maxRecDepth 20000 in
theorem gL_law_X2_put : GoodIn wsL_law (wsV RL 17 RX2 yX2_put wsX2_put) := goodIn_app (goodIn_of _ (by decide +kernel)) ggL_law_X2_put
set_option maxRecDepth 20000 in
theorem ggL_law_X1_some : GoodIn wsL_law wsX1_some := goodIn_r _ [75, 15, 76, 77, 2, 78, 40, 41, 42, 14, 43, 26, 23, 24, 25, 44, 45, 46, 47, 48, 49, 50, 51, 52, 53, 54, 55, 56, 57, 58, 59, 203, 204, 205, 206, 213, 214, 215, 216] (by decide +kernel) (by decide +kernel)
set_option maxRecDepth 20000 in
theorem gL_law_X1_some : GoodIn wsL_law (wsV RL 18 RX1 yX1_some wsX1_some) := goodIn_app (goodIn_of _ (by decide +kernel)) ggL_law_X1_some
set_option maxRecDepth 20000 in
theorem ggL_law_X2_some : GoodIn wsL_law wsX2_some := goodIn_r _ [82, 83, 61, 62, 5, 63, 34, 31, 32, 33, 64, 65, 66, 67, 68, 69, 70, 71, 207, 208, 209, 210, 211, 212] (by decide +kernel) (by decide +kernel)
set_option maxRecDepth 20000 in
theorem gL_law_X2_some : GoodIn wsL_law (wsV RL 22 RX2 yX2_some wsX2_some) := goodIn_app (goodIn_of _ (by decide +kernel)) ggL_law_X2_some
set_option maxRecDepth 20000 in
theorem ggL_law_X1_remove : GoodIn wsL_law wsX1_remove := goodIn_r _ [87, 15, 88, 89, 90, 91, 14, 92, 26, 44, 45, 46, 47, 23, 48, 49, 50, 51, 52, 53, 54, 55, 56, 57, 58, 59, 24, 25, 203, 204, 205, 206, 213, 214, 215, 216] (by decide +kernel) (by decide +kernel)
set_option maxRecDepth 20000 in
theorem gL_law_X1_remove : GoodIn wsL_law (wsV RL 23 RX1 yX1_remove wsX1_remove) := goodIn_app (goodIn_of _ (by decide +kernel)) ggL_law_X1_remove
set_option maxRecDepth 20000 in
theorem ggL_law_X2_remove : GoodIn wsL_law wsX2_remove := goodIn_r _ [96, 34, 31, 32, 33, 64, 65, 66, 5, 67, 68, 69, 70, 71, 207, 208, 209, 210, 211, 212] (by decide +kernel) (by decide +kernel)
set_option maxRecDepth 20000 in
theorem gL_law_X2_remove : GoodIn wsL_law (wsV RL 27 RX2 yX2_remove wsX2_remove) := goodIn_app (goodIn_of _ (by decide +kernel)) ggL_law_X2_remove
set_option maxRecDepth 20000 in
theorem ggL_law_X1_commit : GoodIn wsL_law wsX1_commit := goodIn_r _ [100, 15, 19, 101, 102, 103, 2, 104, 16, 105, 106, 107, 108, 109, 110, 111, 14, 112, 23, 26, 56, 57, 58, 59, 24, 25, 203, 204, 205, 206, 213, 214, 215, 216] (by decide +kernel) (by decide +kernel)
set_option maxRecDepth 20000 in
theorem gL_law_X1_commit : GoodIn wsL_law (wsV RL 28 RX1 yX1_commit wsX1_commit) := goodIn_app (goodIn_of _ (by decide +kernel)) ggL_law_X1_commit
set_option maxRecDepth 20000 in
theorem ggL_law_X2_commit : GoodIn wsL_law wsX2_commit := goodIn_r _ [116, 117, 118, 119, 120, 5, 121, 34, 31, 32, 33, 207, 208, 209, 210, 211, 212] (by decide +kernel) (by decide +kernel)
set_option maxRecDepth 20000 in
theorem gL_law_X2_commit : GoodIn wsL_law (wsV RL 31 RX2 yX2_commit wsX2_commit) := goodIn_app (goodIn_of _ (by decide +kernel)) ggL_law_X2_commit
set_option maxRecDepth 20000 in
theorem ggL_law_X1_forget : GoodIn wsL_law wsX1_forget := goodIn_r _ [125, 15, 19, 88, 101, 102, 103, 2, 104, 16, 105, 106, 107, 108, 109, 110, 111, 14, 112, 23, 26, 56, 57, 58, 59, 24, 25, 203, 204, 205, 206, 213, 214, 215, 216] (by decide +kernel) (by decide +kernel)
set_option maxRecDepth 20000 in
theorem gL_law_X1_forget : GoodIn wsL_law (wsV RL 32 RX1 yX1_forget wsX1_forget) := goodIn_app (goodIn_of _ (by decide +kernel)) ggL_law_X1_forget
set_option maxRecDepth 20000 in
theorem ggL_law_X2_forget : GoodIn wsL_law wsX2_forget := goodIn_r _ [129, 117, 34, 118, 119, 120, 5, 121, 31, 32, 33, 207, 208, 209, 210, 211, 212] (by decide +kernel) (by decide +kernel)
set_option maxRecDepth 20000 in
theorem gL_law_X2_forget : GoodIn wsL_law (wsV RL 36 RX2 yX2_forget wsX2_forget) := goodIn_app (goodIn_of _ (by decide +kernel)) ggL_law_X2_forget
set_option maxRecDepth 20000 in
theorem ggL_law_X1_open : GoodIn wsL_law wsX1_open := goodIn_r _ [133, 18, 19, 203, 204, 205, 206] (by decide +kernel) (by decide +kernel)
set_option maxRecDepth 20000 in
theorem gL_law_X1_open : GoodIn wsL_law (wsV RL 37 RX1 yX1_open wsX1_open) := goodIn_app (goodIn_of _ (by decide +kernel)) ggL_law_X1_open
set_option maxRecDepth 20000 in
theorem ggL_law_X2_open : GoodIn wsL_law wsX2_open := goodIn_r _ [137, 35, 117, 207, 208, 209, 210, 211, 212] (by decide +kernel) (by decide +kernel)
set_option maxRecDepth 20000 in
theorem gL_law_X2_open : GoodIn wsL_law (wsV RL 40 RX2 yX2_open wsX2_open) := goodIn_app (goodIn_of _ (by decide +kernel)) ggL_law_X2_open
set_option maxRecDepth 20000 in
theorem ggL_law_X1_get : GoodIn wsL_law wsX1_get := goodIn_r _ [141, 142, 143, 144, 145, 146, 147, 2, 148, 19, 18, 149, 150, 151, 152, 15, 101, 102, 103, 104, 16, 105, 106, 107, 108, 153, 45, 46, 14, 47, 26, 23, 154, 49, 50, 51, 213, 214, 215, 216, 203, 204, 205, 206] (by decide +kernel) (by decide +kernel)
set_option maxRecDepth 20000 in
theorem gL_law_X1_get : GoodIn wsL_law (wsV RL 41 RX1 yX1_get wsX1_get) := goodIn_app (goodIn_of _ (by decide +kernel)) ggL_law_X1_get
set_option maxRecDepth 20000 in
theorem ggL_law_X2_get : GoodIn wsL_law wsX2_get := goodIn_r _ [158, 159, 32, 160, 161, 162, 163, 5, 164, 35, 117, 64, 65, 66, 67, 34, 31, 68, 69, 70, 71, 207, 208, 209, 210, 211, 212] (by decide +kernel) (by decide +kernel)
set_option maxRecDepth 20000 in
theorem gL_law_X2_get : GoodIn wsL_law (wsV RL 45 RX2 yX2_get wsX2_get) := goodIn_app (goodIn_of _ (by decide +kernel)) ggL_law_X2_get
set_option maxRecDepth 20000 in
theorem ggL_law_X1_next : GoodIn wsL_law wsX1_next := goodIn_r _ [168, 142, 88, 169, 144, 145, 146, 147, 2, 148, 19, 18, 149, 150, 151, 152, 15, 101, 102, 103, 104, 16, 105, 106, 107, 108, 170, 171, 172, 14, 173, 44, 45, 46, 47, 26, 23, 48, 49, 50, 51, 213, 214, 215, 216, 203, 204, 205, 206] (by decide +kernel) (by decide +kernel)
set_option maxRecDepth 20000 in
theorem gL_law_X1_next : GoodIn wsL_law (wsV RL 46 RX1 yX1_next wsX1_next) := goodIn_app (goodIn_of _ (by decide +kernel)) ggL_law_X1_next
set_option maxRecDepth 20000 in
theorem ggL_law_X2_next : GoodIn wsL_law wsX2_next := goodIn_r _ [177, 159, 34, 31, 160, 161, 162, 163, 5, 164, 35, 117, 64, 65, 66, 67, 68, 69, 70, 71, 207, 208, 209, 210, 211, 212] (by decide +kernel) (by decide +kernel)
set_option maxRecDepth 20000 in
theorem gL_law_X2_next : GoodIn wsL_law (wsV RL 49 RX2 yX2_next wsX2_next) := goodIn_app (goodIn_of _ (by decide +kernel)) ggL_law_X2_next
set_option maxRecDepth 20000 in
theorem ggL_law_X1_size : GoodIn wsL_law wsX1_size := goodIn_r _ [181, 182, 145, 146, 147, 2, 148, 19, 18, 149, 150, 151, 152, 15, 101, 102, 103, 104, 16, 105, 106, 107, 108, 153, 45, 46, 14, 47, 26, 23, 154, 49, 50, 51, 213, 214, 215, 216, 203, 204, 205, 206] (by decide +kernel) (by decide +kernel)
set_option maxRecDepth 20000 in
theorem gL_law_X1_size : GoodIn wsL_law (wsV RL 50 RX1 yX1_size wsX1_size) := goodIn_app (goodIn_of _ (by decide +kernel)) ggL_law_X1_size
set_option maxRecDepth 20000 in
theorem ggL_law_X2_size : GoodIn wsL_law wsX2_size := goodIn_r _ [186, 33, 161, 162, 163, 5, 164, 35, 117, 64, 65, 66, 67, 34, 31, 68, 69, 70, 71, 207, 208, 209, 210, 211, 212] (by decide +kernel) (by decide +kernel)
set_option maxRecDepth 20000 in
theorem gL_law_X2_size : GoodIn wsL_law (wsV RL 54 RX2 yX2_size wsX2_size) := goodIn_app (goodIn_of _ (by decide +kernel)) ggL_law_X2_size
set_option maxRecDepth 20000 in
theorem ggL_law_X1_count : GoodIn wsL_law wsX1_count := goodIn_r _ [190, 88, 145, 146, 147, 2, 148, 19, 18, 149, 150, 151, 152, 15, 101, 102, 103, 104, 16, 105, 106, 107, 108, 213, 214, 215, 216, 203, 204, 205, 206] (by decide +kernel) (by decide +kernel)
set_option maxRecDepth 20000 in
theorem gL_law_X1_count : GoodIn wsL_law (wsV RL 55 RX1 yX1_count wsX1_count) := goodIn_app (goodIn_of _ (by decide +kernel)) ggL_law_X1_count
set_option maxRecDepth 20000 in
theorem ggL_law_X2_count : GoodIn wsL_law wsX2_count := goodIn_r _ [194, 34, 161, 162, 163, 5, 164, 35, 117, 207, 208, 209, 210, 211, 212] (by decide +kernel) (by decide +kernel)
set_option maxRecDepth 20000 in
theorem gL_law_X2_count : GoodIn wsL_law (wsV RL 58 RX2 yX2_count wsX2_count) := goodIn_app (goodIn_of _ (by decide +kernel)) ggL_law_X2_count
set_option maxRecDepth 20000 in
theorem ggL_law_X1_digest : GoodIn wsL_law wsX1_digest := goodIn_r _ [198, 145, 146, 147, 2, 148, 19, 18, 149, 150, 151, 152, 15, 101, 102, 103, 104, 16, 105, 106, 107, 108, 199, 200, 201, 14, 202, 26, 23, 24, 25, 203, 204, 205, 206, 213, 214, 215, 216] (by decide +kernel) (by decide +kernel)
set_option maxRecDepth 20000 in
theorem gL_law_X1_digest : GoodIn wsL_law (wsV RL 59 RX1 yX1_digest wsX1_digest) := goodIn_app (goodIn_of _ (by decide +kernel)) ggL_law_X1_digest
theorem dL_law_0 : decode cL_law 0 = .ok (.new 7, 3) := by decide +kernel
theorem dL_law_3 : decode cL_law 3 = .ok (.dup, 1) := by decide +kernel
theorem dL_law_4 : decode cL_law 4 = .ok (.invokespecial 9, 3) := by decide +kernel
theorem dL_law_7 : decode cL_law 7 = .ok (.astore_n 1, 1) := by decide +kernel
theorem dL_law_8 : decode cL_law 8 = .ok (.new 10, 3) := by decide +kernel
theorem dL_law_11 : decode cL_law 11 = .ok (.dup, 1) := by decide +kernel
theorem dL_law_12 : decode cL_law 12 = .ok (.invokespecial 12, 3) := by decide +kernel
theorem dL_law_15 : decode cL_law 15 = .ok (.astore_n 2, 1) := by decide +kernel
theorem dL_law_16 : decode cL_law 16 = .ok (.iconst 0, 1) := by decide +kernel
theorem dL_law_17 : decode cL_law 17 = .ok (.istore_n 3, 1) := by decide +kernel
theorem dL_law_18 : decode cL_law 18 = .ok (.iload_n 3, 1) := by decide +kernel
theorem dL_law_19 : decode cL_law 19 = .ok (.aload_n 0, 1) := by decide +kernel
theorem dL_law_20 : decode cL_law 20 = .ok (.arraylength, 1) := by decide +kernel
theorem dL_law_21 : decode cL_law 21 = .ok (.iconst 5, 1) := by decide +kernel
theorem dL_law_22 : decode cL_law 22 = .ok (.isub, 1) := by decide +kernel
theorem dL_law_23 : decode cL_law 23 = .ok (.if_icmp .gt 400, 3) := by decide +kernel
theorem dL_law_26 : decode cL_law 26 = .ok (.aload_n 0, 1) := by decide +kernel
theorem dL_law_27 : decode cL_law 27 = .ok (.iload_n 3, 1) := by decide +kernel
theorem dL_law_28 : decode cL_law 28 = .ok (.iaload, 1) := by decide +kernel
theorem dL_law_29 : decode cL_law 29 = .ok (.bipush 15, 2) := by decide +kernel
theorem dL_law_31 : decode cL_law 31 = .ok (.iand, 1) := by decide +kernel
theorem dL_law_32 : decode cL_law 32 = .ok (.tableswitch 385 0 10 #[60, 103, 156, 179, 202, 215, 238, 272, 306, 339, 362], 60) := by decide +kernel
theorem dL_law_92 : decode cL_law 92 = .ok (.aload_n 1, 1) := by decide +kernel
theorem dL_law_93 : decode cL_law 93 = .ok (.aload_n 0, 1) := by decide +kernel
theorem dL_law_94 : decode cL_law 94 = .ok (.iload_n 3, 1) := by decide +kernel
theorem dL_law_95 : decode cL_law 95 = .ok (.iconst 1, 1) := by decide +kernel
theorem dL_law_96 : decode cL_law 96 = .ok (.iadd, 1) := by decide +kernel
theorem dL_law_97 : decode cL_law 97 = .ok (.iaload, 1) := by decide +kernel
theorem dL_law_98 : decode cL_law 98 = .ok (.aload_n 0, 1) := by decide +kernel
theorem dL_law_99 : decode cL_law 99 = .ok (.iload_n 3, 1) := by decide +kernel
theorem dL_law_100 : decode cL_law 100 = .ok (.iconst 2, 1) := by decide +kernel
theorem dL_law_101 : decode cL_law 101 = .ok (.iadd, 1) := by decide +kernel
theorem dL_law_102 : decode cL_law 102 = .ok (.iaload, 1) := by decide +kernel
theorem dL_law_103 : decode cL_law 103 = .ok (.aload_n 0, 1) := by decide +kernel
theorem dL_law_104 : decode cL_law 104 = .ok (.iload_n 3, 1) := by decide +kernel
theorem dL_law_105 : decode cL_law 105 = .ok (.iconst 3, 1) := by decide +kernel
theorem dL_law_106 : decode cL_law 106 = .ok (.iadd, 1) := by decide +kernel
theorem dL_law_107 : decode cL_law 107 = .ok (.iaload, 1) := by decide +kernel
theorem dL_law_108 : decode cL_law 108 = .ok (.invokevirtual 13, 3) := by decide +kernel
theorem dL_law_111 : decode cL_law 111 = .ok (.aload_n 2, 1) := by decide +kernel
theorem dL_law_112 : decode cL_law 112 = .ok (.aload_n 0, 1) := by decide +kernel
theorem dL_law_113 : decode cL_law 113 = .ok (.iload_n 3, 1) := by decide +kernel
theorem dL_law_114 : decode cL_law 114 = .ok (.iconst 1, 1) := by decide +kernel
theorem dL_law_115 : decode cL_law 115 = .ok (.iadd, 1) := by decide +kernel
theorem dL_law_116 : decode cL_law 116 = .ok (.iaload, 1) := by decide +kernel
theorem dL_law_117 : decode cL_law 117 = .ok (.aload_n 0, 1) := by decide +kernel
theorem dL_law_118 : decode cL_law 118 = .ok (.iload_n 3, 1) := by decide +kernel
theorem dL_law_119 : decode cL_law 119 = .ok (.iconst 2, 1) := by decide +kernel
theorem dL_law_120 : decode cL_law 120 = .ok (.iadd, 1) := by decide +kernel
theorem dL_law_121 : decode cL_law 121 = .ok (.iaload, 1) := by decide +kernel
theorem dL_law_122 : decode cL_law 122 = .ok (.aload_n 0, 1) := by decide +kernel
theorem dL_law_123 : decode cL_law 123 = .ok (.iload_n 3, 1) := by decide +kernel
theorem dL_law_124 : decode cL_law 124 = .ok (.iconst 3, 1) := by decide +kernel
theorem dL_law_125 : decode cL_law 125 = .ok (.iadd, 1) := by decide +kernel
theorem dL_law_126 : decode cL_law 126 = .ok (.iaload, 1) := by decide +kernel
theorem dL_law_127 : decode cL_law 127 = .ok (.invokevirtual 17, 3) := by decide +kernel
theorem dL_law_130 : decode cL_law 130 = .ok (.if_icmp .eq 287, 3) := by decide +kernel
theorem dL_law_133 : decode cL_law 133 = .ok (.iconst 0, 1) := by decide +kernel
theorem dL_law_134 : decode cL_law 134 = .ok (.ireturn, 1) := by decide +kernel
theorem dL_law_135 : decode cL_law 135 = .ok (.aload_n 1, 1) := by decide +kernel
theorem dL_law_136 : decode cL_law 136 = .ok (.aload_n 0, 1) := by decide +kernel
theorem dL_law_137 : decode cL_law 137 = .ok (.iload_n 3, 1) := by decide +kernel
theorem dL_law_138 : decode cL_law 138 = .ok (.iconst 1, 1) := by decide +kernel
theorem dL_law_139 : decode cL_law 139 = .ok (.iadd, 1) := by decide +kernel
theorem dL_law_140 : decode cL_law 140 = .ok (.iaload, 1) := by decide +kernel
theorem dL_law_141 : decode cL_law 141 = .ok (.aload_n 0, 1) := by decide +kernel
theorem dL_law_142 : decode cL_law 142 = .ok (.iload_n 3, 1) := by decide +kernel
theorem dL_law_143 : decode cL_law 143 = .ok (.iconst 2, 1) := by decide +kernel
theorem dL_law_144 : decode cL_law 144 = .ok (.iadd, 1) := by decide +kernel
theorem dL_law_145 : decode cL_law 145 = .ok (.iaload, 1) := by decide +kernel
theorem dL_law_146 : decode cL_law 146 = .ok (.aload_n 0, 1) := by decide +kernel
theorem dL_law_147 : decode cL_law 147 = .ok (.iload_n 3, 1) := by decide +kernel
theorem dL_law_148 : decode cL_law 148 = .ok (.iconst 3, 1) := by decide +kernel
theorem dL_law_149 : decode cL_law 149 = .ok (.iadd, 1) := by decide +kernel
theorem dL_law_150 : decode cL_law 150 = .ok (.iaload, 1) := by decide +kernel
theorem dL_law_151 : decode cL_law 151 = .ok (.aload_n 0, 1) := by decide +kernel
theorem dL_law_152 : decode cL_law 152 = .ok (.iload_n 3, 1) := by decide +kernel
theorem dL_law_153 : decode cL_law 153 = .ok (.iconst 4, 1) := by decide +kernel
theorem dL_law_154 : decode cL_law 154 = .ok (.iadd, 1) := by decide +kernel
theorem dL_law_155 : decode cL_law 155 = .ok (.iaload, 1) := by decide +kernel
theorem dL_law_156 : decode cL_law 156 = .ok (.invokevirtual 18, 3) := by decide +kernel
theorem dL_law_159 : decode cL_law 159 = .ok (.aload_n 2, 1) := by decide +kernel
theorem dL_law_160 : decode cL_law 160 = .ok (.aload_n 0, 1) := by decide +kernel
theorem dL_law_161 : decode cL_law 161 = .ok (.iload_n 3, 1) := by decide +kernel
theorem dL_law_162 : decode cL_law 162 = .ok (.iconst 1, 1) := by decide +kernel
theorem dL_law_163 : decode cL_law 163 = .ok (.iadd, 1) := by decide +kernel
theorem dL_law_164 : decode cL_law 164 = .ok (.iaload, 1) := by decide +kernel
theorem dL_law_165 : decode cL_law 165 = .ok (.aload_n 0, 1) := by decide +kernel
theorem dL_law_166 : decode cL_law 166 = .ok (.iload_n 3, 1) := by decide +kernel
theorem dL_law_167 : decode cL_law 167 = .ok (.iconst 2, 1) := by decide +kernel
theorem dL_law_168 : decode cL_law 168 = .ok (.iadd, 1) := by decide +kernel
theorem dL_law_169 : decode cL_law 169 = .ok (.iaload, 1) := by decide +kernel
theorem dL_law_170 : decode cL_law 170 = .ok (.aload_n 0, 1) := by decide +kernel
theorem dL_law_171 : decode cL_law 171 = .ok (.iload_n 3, 1) := by decide +kernel
theorem dL_law_172 : decode cL_law 172 = .ok (.iconst 3, 1) := by decide +kernel
theorem dL_law_173 : decode cL_law 173 = .ok (.iadd, 1) := by decide +kernel
theorem dL_law_174 : decode cL_law 174 = .ok (.iaload, 1) := by decide +kernel
theorem dL_law_175 : decode cL_law 175 = .ok (.aload_n 0, 1) := by decide +kernel
theorem dL_law_176 : decode cL_law 176 = .ok (.iload_n 3, 1) := by decide +kernel
theorem dL_law_177 : decode cL_law 177 = .ok (.iconst 4, 1) := by decide +kernel
theorem dL_law_178 : decode cL_law 178 = .ok (.iadd, 1) := by decide +kernel
theorem dL_law_179 : decode cL_law 179 = .ok (.iaload, 1) := by decide +kernel
theorem dL_law_180 : decode cL_law 180 = .ok (.invokevirtual 22, 3) := by decide +kernel
theorem dL_law_183 : decode cL_law 183 = .ok (.if_icmp .eq 234, 3) := by decide +kernel
theorem dL_law_186 : decode cL_law 186 = .ok (.iconst 0, 1) := by decide +kernel
theorem dL_law_187 : decode cL_law 187 = .ok (.ireturn, 1) := by decide +kernel
theorem dL_law_188 : decode cL_law 188 = .ok (.aload_n 1, 1) := by decide +kernel
theorem dL_law_189 : decode cL_law 189 = .ok (.aload_n 0, 1) := by decide +kernel
theorem dL_law_190 : decode cL_law 190 = .ok (.iload_n 3, 1) := by decide +kernel
theorem dL_law_191 : decode cL_law 191 = .ok (.iconst 1, 1) := by decide +kernel
theorem dL_law_192 : decode cL_law 192 = .ok (.iadd, 1) := by decide +kernel
theorem dL_law_193 : decode cL_law 193 = .ok (.iaload, 1) := by decide +kernel
theorem dL_law_194 : decode cL_law 194 = .ok (.invokevirtual 23, 3) := by decide +kernel
theorem dL_law_197 : decode cL_law 197 = .ok (.aload_n 2, 1) := by decide +kernel
theorem dL_law_198 : decode cL_law 198 = .ok (.aload_n 0, 1) := by decide +kernel
theorem dL_law_199 : decode cL_law 199 = .ok (.iload_n 3, 1) := by decide +kernel
theorem dL_law_200 : decode cL_law 200 = .ok (.iconst 1, 1) := by decide +kernel
theorem dL_law_201 : decode cL_law 201 = .ok (.iadd, 1) := by decide +kernel
theorem dL_law_202 : decode cL_law 202 = .ok (.iaload, 1) := by decide +kernel
theorem dL_law_203 : decode cL_law 203 = .ok (.invokevirtual 27, 3) := by decide +kernel
theorem dL_law_206 : decode cL_law 206 = .ok (.if_icmp .eq 211, 3) := by decide +kernel
theorem dL_law_209 : decode cL_law 209 = .ok (.iconst 0, 1) := by decide +kernel
theorem dL_law_210 : decode cL_law 210 = .ok (.ireturn, 1) := by decide +kernel
theorem dL_law_211 : decode cL_law 211 = .ok (.aload_n 1, 1) := by decide +kernel
theorem dL_law_212 : decode cL_law 212 = .ok (.aload_n 0, 1) := by decide +kernel
theorem dL_law_213 : decode cL_law 213 = .ok (.iload_n 3, 1) := by decide +kernel
theorem dL_law_214 : decode cL_law 214 = .ok (.iconst 1, 1) := by decide +kernel
theorem dL_law_215 : decode cL_law 215 = .ok (.iadd, 1) := by decide +kernel
theorem dL_law_216 : decode cL_law 216 = .ok (.iaload, 1) := by decide +kernel
theorem dL_law_217 : decode cL_law 217 = .ok (.invokevirtual 28, 3) := by decide +kernel
theorem dL_law_220 : decode cL_law 220 = .ok (.aload_n 2, 1) := by decide +kernel
theorem dL_law_221 : decode cL_law 221 = .ok (.aload_n 0, 1) := by decide +kernel
theorem dL_law_222 : decode cL_law 222 = .ok (.iload_n 3, 1) := by decide +kernel
theorem dL_law_223 : decode cL_law 223 = .ok (.iconst 1, 1) := by decide +kernel
theorem dL_law_224 : decode cL_law 224 = .ok (.iadd, 1) := by decide +kernel
theorem dL_law_225 : decode cL_law 225 = .ok (.iaload, 1) := by decide +kernel
theorem dL_law_226 : decode cL_law 226 = .ok (.invokevirtual 31, 3) := by decide +kernel
theorem dL_law_229 : decode cL_law 229 = .ok (.if_icmp .eq 188, 3) := by decide +kernel
theorem dL_law_232 : decode cL_law 232 = .ok (.iconst 0, 1) := by decide +kernel
theorem dL_law_233 : decode cL_law 233 = .ok (.ireturn, 1) := by decide +kernel
theorem dL_law_234 : decode cL_law 234 = .ok (.aload_n 1, 1) := by decide +kernel
theorem dL_law_235 : decode cL_law 235 = .ok (.invokevirtual 32, 3) := by decide +kernel
theorem dL_law_238 : decode cL_law 238 = .ok (.aload_n 2, 1) := by decide +kernel
theorem dL_law_239 : decode cL_law 239 = .ok (.invokevirtual 36, 3) := by decide +kernel
theorem dL_law_242 : decode cL_law 242 = .ok (.if_icmp .eq 175, 3) := by decide +kernel
theorem dL_law_245 : decode cL_law 245 = .ok (.iconst 0, 1) := by decide +kernel
theorem dL_law_246 : decode cL_law 246 = .ok (.ireturn, 1) := by decide +kernel
theorem dL_law_247 : decode cL_law 247 = .ok (.aload_n 1, 1) := by decide +kernel
theorem dL_law_248 : decode cL_law 248 = .ok (.aload_n 0, 1) := by decide +kernel
theorem dL_law_249 : decode cL_law 249 = .ok (.iload_n 3, 1) := by decide +kernel
theorem dL_law_250 : decode cL_law 250 = .ok (.iconst 1, 1) := by decide +kernel
theorem dL_law_251 : decode cL_law 251 = .ok (.iadd, 1) := by decide +kernel
theorem dL_law_252 : decode cL_law 252 = .ok (.iaload, 1) := by decide +kernel
theorem dL_law_253 : decode cL_law 253 = .ok (.invokevirtual 37, 3) := by decide +kernel
theorem dL_law_256 : decode cL_law 256 = .ok (.aload_n 2, 1) := by decide +kernel
theorem dL_law_257 : decode cL_law 257 = .ok (.aload_n 0, 1) := by decide +kernel
theorem dL_law_258 : decode cL_law 258 = .ok (.iload_n 3, 1) := by decide +kernel
theorem dL_law_259 : decode cL_law 259 = .ok (.iconst 1, 1) := by decide +kernel
theorem dL_law_260 : decode cL_law 260 = .ok (.iadd, 1) := by decide +kernel
theorem dL_law_261 : decode cL_law 261 = .ok (.iaload, 1) := by decide +kernel
theorem dL_law_262 : decode cL_law 262 = .ok (.invokevirtual 40, 3) := by decide +kernel
theorem dL_law_265 : decode cL_law 265 = .ok (.if_icmp .eq 152, 3) := by decide +kernel
theorem dL_law_268 : decode cL_law 268 = .ok (.iconst 0, 1) := by decide +kernel
theorem dL_law_269 : decode cL_law 269 = .ok (.ireturn, 1) := by decide +kernel
theorem dL_law_270 : decode cL_law 270 = .ok (.aload_n 1, 1) := by decide +kernel
theorem dL_law_271 : decode cL_law 271 = .ok (.aload_n 0, 1) := by decide +kernel
theorem dL_law_272 : decode cL_law 272 = .ok (.iload_n 3, 1) := by decide +kernel
theorem dL_law_273 : decode cL_law 273 = .ok (.iconst 1, 1) := by decide +kernel
theorem dL_law_274 : decode cL_law 274 = .ok (.iadd, 1) := by decide +kernel
theorem dL_law_275 : decode cL_law 275 = .ok (.iaload, 1) := by decide +kernel
theorem dL_law_276 : decode cL_law 276 = .ok (.aload_n 0, 1) := by decide +kernel
theorem dL_law_277 : decode cL_law 277 = .ok (.iload_n 3, 1) := by decide +kernel
theorem dL_law_278 : decode cL_law 278 = .ok (.iconst 2, 1) := by decide +kernel
theorem dL_law_279 : decode cL_law 279 = .ok (.iadd, 1) := by decide +kernel
theorem dL_law_280 : decode cL_law 280 = .ok (.iaload, 1) := by decide +kernel
theorem dL_law_281 : decode cL_law 281 = .ok (.invokevirtual 41, 3) := by decide +kernel
theorem dL_law_284 : decode cL_law 284 = .ok (.aload_n 2, 1) := by decide +kernel
theorem dL_law_285 : decode cL_law 285 = .ok (.aload_n 0, 1) := by decide +kernel
theorem dL_law_286 : decode cL_law 286 = .ok (.iload_n 3, 1) := by decide +kernel
theorem dL_law_287 : decode cL_law 287 = .ok (.iconst 1, 1) := by decide +kernel
theorem dL_law_288 : decode cL_law 288 = .ok (.iadd, 1) := by decide +kernel
theorem dL_law_289 : decode cL_law 289 = .ok (.iaload, 1) := by decide +kernel
theorem dL_law_290 : decode cL_law 290 = .ok (.aload_n 0, 1) := by decide +kernel
theorem dL_law_291 : decode cL_law 291 = .ok (.iload_n 3, 1) := by decide +kernel
theorem dL_law_292 : decode cL_law 292 = .ok (.iconst 2, 1) := by decide +kernel
theorem dL_law_293 : decode cL_law 293 = .ok (.iadd, 1) := by decide +kernel
theorem dL_law_294 : decode cL_law 294 = .ok (.iaload, 1) := by decide +kernel
theorem dL_law_295 : decode cL_law 295 = .ok (.invokevirtual 45, 3) := by decide +kernel
theorem dL_law_298 : decode cL_law 298 = .ok (.lcmp, 1) := by decide +kernel
theorem dL_law_299 : decode cL_law 299 = .ok (.ifCond .eq 118, 3) := by decide +kernel
theorem dL_law_302 : decode cL_law 302 = .ok (.iconst 0, 1) := by decide +kernel
theorem dL_law_303 : decode cL_law 303 = .ok (.ireturn, 1) := by decide +kernel
theorem dL_law_304 : decode cL_law 304 = .ok (.aload_n 1, 1) := by decide +kernel
theorem dL_law_305 : decode cL_law 305 = .ok (.aload_n 0, 1) := by decide +kernel
theorem dL_law_306 : decode cL_law 306 = .ok (.iload_n 3, 1) := by decide +kernel
theorem dL_law_307 : decode cL_law 307 = .ok (.iconst 1, 1) := by decide +kernel
theorem dL_law_308 : decode cL_law 308 = .ok (.iadd, 1) := by decide +kernel
theorem dL_law_309 : decode cL_law 309 = .ok (.iaload, 1) := by decide +kernel
theorem dL_law_310 : decode cL_law 310 = .ok (.aload_n 0, 1) := by decide +kernel
theorem dL_law_311 : decode cL_law 311 = .ok (.iload_n 3, 1) := by decide +kernel
theorem dL_law_312 : decode cL_law 312 = .ok (.iconst 2, 1) := by decide +kernel
theorem dL_law_313 : decode cL_law 313 = .ok (.iadd, 1) := by decide +kernel
theorem dL_law_314 : decode cL_law 314 = .ok (.iaload, 1) := by decide +kernel
theorem dL_law_315 : decode cL_law 315 = .ok (.invokevirtual 46, 3) := by decide +kernel
theorem dL_law_318 : decode cL_law 318 = .ok (.aload_n 2, 1) := by decide +kernel
theorem dL_law_319 : decode cL_law 319 = .ok (.aload_n 0, 1) := by decide +kernel
theorem dL_law_320 : decode cL_law 320 = .ok (.iload_n 3, 1) := by decide +kernel
theorem dL_law_321 : decode cL_law 321 = .ok (.iconst 1, 1) := by decide +kernel
theorem dL_law_322 : decode cL_law 322 = .ok (.iadd, 1) := by decide +kernel
theorem dL_law_323 : decode cL_law 323 = .ok (.iaload, 1) := by decide +kernel
theorem dL_law_324 : decode cL_law 324 = .ok (.aload_n 0, 1) := by decide +kernel
theorem dL_law_325 : decode cL_law 325 = .ok (.iload_n 3, 1) := by decide +kernel
theorem dL_law_326 : decode cL_law 326 = .ok (.iconst 2, 1) := by decide +kernel
theorem dL_law_327 : decode cL_law 327 = .ok (.iadd, 1) := by decide +kernel
theorem dL_law_328 : decode cL_law 328 = .ok (.iaload, 1) := by decide +kernel
theorem dL_law_329 : decode cL_law 329 = .ok (.invokevirtual 49, 3) := by decide +kernel
theorem dL_law_332 : decode cL_law 332 = .ok (.lcmp, 1) := by decide +kernel
theorem dL_law_333 : decode cL_law 333 = .ok (.ifCond .eq 84, 3) := by decide +kernel
theorem dL_law_336 : decode cL_law 336 = .ok (.iconst 0, 1) := by decide +kernel
theorem dL_law_337 : decode cL_law 337 = .ok (.ireturn, 1) := by decide +kernel
theorem dL_law_338 : decode cL_law 338 = .ok (.aload_n 1, 1) := by decide +kernel
theorem dL_law_339 : decode cL_law 339 = .ok (.aload_n 0, 1) := by decide +kernel
theorem dL_law_340 : decode cL_law 340 = .ok (.iload_n 3, 1) := by decide +kernel
theorem dL_law_341 : decode cL_law 341 = .ok (.iconst 1, 1) := by decide +kernel
theorem dL_law_342 : decode cL_law 342 = .ok (.iadd, 1) := by decide +kernel
theorem dL_law_343 : decode cL_law 343 = .ok (.iaload, 1) := by decide +kernel
theorem dL_law_344 : decode cL_law 344 = .ok (.aload_n 0, 1) := by decide +kernel
theorem dL_law_345 : decode cL_law 345 = .ok (.iload_n 3, 1) := by decide +kernel
theorem dL_law_346 : decode cL_law 346 = .ok (.iconst 2, 1) := by decide +kernel
theorem dL_law_347 : decode cL_law 347 = .ok (.iadd, 1) := by decide +kernel
theorem dL_law_348 : decode cL_law 348 = .ok (.iaload, 1) := by decide +kernel
theorem dL_law_349 : decode cL_law 349 = .ok (.invokevirtual 50, 3) := by decide +kernel
theorem dL_law_352 : decode cL_law 352 = .ok (.aload_n 2, 1) := by decide +kernel
theorem dL_law_353 : decode cL_law 353 = .ok (.aload_n 0, 1) := by decide +kernel
theorem dL_law_354 : decode cL_law 354 = .ok (.iload_n 3, 1) := by decide +kernel
theorem dL_law_355 : decode cL_law 355 = .ok (.iconst 1, 1) := by decide +kernel
theorem dL_law_356 : decode cL_law 356 = .ok (.iadd, 1) := by decide +kernel
theorem dL_law_357 : decode cL_law 357 = .ok (.iaload, 1) := by decide +kernel
theorem dL_law_358 : decode cL_law 358 = .ok (.aload_n 0, 1) := by decide +kernel
theorem dL_law_359 : decode cL_law 359 = .ok (.iload_n 3, 1) := by decide +kernel
theorem dL_law_360 : decode cL_law 360 = .ok (.iconst 2, 1) := by decide +kernel
theorem dL_law_361 : decode cL_law 361 = .ok (.iadd, 1) := by decide +kernel
theorem dL_law_362 : decode cL_law 362 = .ok (.iaload, 1) := by decide +kernel
theorem dL_law_363 : decode cL_law 363 = .ok (.invokevirtual 54, 3) := by decide +kernel
theorem dL_law_366 : decode cL_law 366 = .ok (.if_icmp .eq 51, 3) := by decide +kernel
theorem dL_law_369 : decode cL_law 369 = .ok (.iconst 0, 1) := by decide +kernel
theorem dL_law_370 : decode cL_law 370 = .ok (.ireturn, 1) := by decide +kernel
theorem dL_law_371 : decode cL_law 371 = .ok (.aload_n 1, 1) := by decide +kernel
theorem dL_law_372 : decode cL_law 372 = .ok (.aload_n 0, 1) := by decide +kernel
theorem dL_law_373 : decode cL_law 373 = .ok (.iload_n 3, 1) := by decide +kernel
theorem dL_law_374 : decode cL_law 374 = .ok (.iconst 1, 1) := by decide +kernel
theorem dL_law_375 : decode cL_law 375 = .ok (.iadd, 1) := by decide +kernel
theorem dL_law_376 : decode cL_law 376 = .ok (.iaload, 1) := by decide +kernel
theorem dL_law_377 : decode cL_law 377 = .ok (.invokevirtual 55, 3) := by decide +kernel
theorem dL_law_380 : decode cL_law 380 = .ok (.aload_n 2, 1) := by decide +kernel
theorem dL_law_381 : decode cL_law 381 = .ok (.aload_n 0, 1) := by decide +kernel
theorem dL_law_382 : decode cL_law 382 = .ok (.iload_n 3, 1) := by decide +kernel
theorem dL_law_383 : decode cL_law 383 = .ok (.iconst 1, 1) := by decide +kernel
theorem dL_law_384 : decode cL_law 384 = .ok (.iadd, 1) := by decide +kernel
theorem dL_law_385 : decode cL_law 385 = .ok (.iaload, 1) := by decide +kernel
theorem dL_law_386 : decode cL_law 386 = .ok (.invokevirtual 58, 3) := by decide +kernel
theorem dL_law_389 : decode cL_law 389 = .ok (.if_icmp .eq 28, 3) := by decide +kernel
theorem dL_law_392 : decode cL_law 392 = .ok (.iconst 0, 1) := by decide +kernel
theorem dL_law_393 : decode cL_law 393 = .ok (.ireturn, 1) := by decide +kernel
theorem dL_law_394 : decode cL_law 394 = .ok (.aload_n 1, 1) := by decide +kernel
theorem dL_law_395 : decode cL_law 395 = .ok (.aload_n 0, 1) := by decide +kernel
theorem dL_law_396 : decode cL_law 396 = .ok (.iload_n 3, 1) := by decide +kernel
theorem dL_law_397 : decode cL_law 397 = .ok (.iconst 1, 1) := by decide +kernel
theorem dL_law_398 : decode cL_law 398 = .ok (.iadd, 1) := by decide +kernel
theorem dL_law_399 : decode cL_law 399 = .ok (.iaload, 1) := by decide +kernel
theorem dL_law_400 : decode cL_law 400 = .ok (.invokevirtual 59, 3) := by decide +kernel
theorem dL_law_403 : decode cL_law 403 = .ok (.aload_n 2, 1) := by decide +kernel
theorem dL_law_404 : decode cL_law 404 = .ok (.aload_n 0, 1) := by decide +kernel
theorem dL_law_405 : decode cL_law 405 = .ok (.iload_n 3, 1) := by decide +kernel
theorem dL_law_406 : decode cL_law 406 = .ok (.iconst 1, 1) := by decide +kernel
theorem dL_law_407 : decode cL_law 407 = .ok (.iadd, 1) := by decide +kernel
theorem dL_law_408 : decode cL_law 408 = .ok (.iaload, 1) := by decide +kernel
theorem dL_law_409 : decode cL_law 409 = .ok (.invokevirtual 62, 3) := by decide +kernel
theorem dL_law_412 : decode cL_law 412 = .ok (.if_icmp .eq 5, 3) := by decide +kernel
theorem dL_law_415 : decode cL_law 415 = .ok (.iconst 0, 1) := by decide +kernel
theorem dL_law_416 : decode cL_law 416 = .ok (.ireturn, 1) := by decide +kernel
theorem dL_law_417 : decode cL_law 417 = .ok (.iinc 3 5, 3) := by decide +kernel
theorem dL_law_420 : decode cL_law 420 = .ok (.goto (-402), 3) := by decide +kernel
theorem dL_law_423 : decode cL_law 423 = .ok (.iconst 1, 1) := by decide +kernel
theorem dL_law_424 : decode cL_law 424 = .ok (.ireturn, 1) := by decide +kernel
abbrev vwCl : List vw_C := [(RX0, TX0, 4), (RX1, TX1, 4), (RX2, TX2, 6)]
/-! the reference's digest, which the printed names leave out -/
abbrev cX2_digest : ByteArray := prog_4_method_16_code
def yX2_digest : MethodName := ⟨RX2, "digest", "(I)I"⟩
def wsX2_digest : List Cond := .code yX2_digest cX2_digest 5 (some .int) :: ([.fieldLink RX2 19 "RevisionTreeModel" "count" "[I", .fieldLink RX2 9 "RevisionTreeModel" "key" "[I", .fieldLink RX2 13 "RevisionTreeModel" "value" "[I", .fieldLink RX2 16 "RevisionTreeModel" "size" "[I", .methodLink RX2 45 yX2_table, .instanceMethod yX2_table, .selects RX2 yX2_table yX2_table, .initialized RX2, .code yX2_table cX2_table 2 (some .int), .fieldLink RX2 22 "RevisionTreeModel" "reader" "[I", .fieldLink RX2 37 "RevisionTreeModel" "latest" "I"] ++ wsX20)
theorem dX2_digest_0 : decode cX2_digest 0 = .ok (.aload_n 0, 1) := by decide +kernel
theorem dX2_digest_1 : decode cX2_digest 1 = .ok (.iload_n 1, 1) := by decide +kernel
theorem dX2_digest_2 : decode cX2_digest 2 = .ok (.invokevirtual 45, 3) := by decide +kernel
theorem dX2_digest_5 : decode cX2_digest 5 = .ok (.istore_n 2, 1) := by decide +kernel
theorem dX2_digest_6 : decode cX2_digest 6 = .ok (.iload_n 2, 1) := by decide +kernel
theorem dX2_digest_7 : decode cX2_digest 7 = .ok (.ifCond .ge 5, 3) := by decide +kernel
theorem dX2_digest_10 : decode cX2_digest 10 = .ok (.iload_n 2, 1) := by decide +kernel
theorem dX2_digest_11 : decode cX2_digest 11 = .ok (.ireturn, 1) := by decide +kernel
theorem dX2_digest_12 : decode cX2_digest 12 = .ok (.iconst 0, 1) := by decide +kernel
theorem dX2_digest_13 : decode cX2_digest 13 = .ok (.istore_n 3, 1) := by decide +kernel
theorem dX2_digest_14 : decode cX2_digest 14 = .ok (.sipush 400, 3) := by decide +kernel
theorem dX2_digest_17 : decode cX2_digest 17 = .ok (.iload_n 2, 1) := by decide +kernel
theorem dX2_digest_18 : decode cX2_digest 18 = .ok (.imul, 1) := by decide +kernel
theorem dX2_digest_19 : decode cX2_digest 19 = .ok (.istore 4, 2) := by decide +kernel
theorem dX2_digest_21 : decode cX2_digest 21 = .ok (.iload 4, 2) := by decide +kernel
theorem dX2_digest_23 : decode cX2_digest 23 = .ok (.sipush 400, 3) := by decide +kernel
theorem dX2_digest_26 : decode cX2_digest 26 = .ok (.iload_n 2, 1) := by decide +kernel
theorem dX2_digest_27 : decode cX2_digest 27 = .ok (.imul, 1) := by decide +kernel
theorem dX2_digest_28 : decode cX2_digest 28 = .ok (.aload_n 0, 1) := by decide +kernel
theorem dX2_digest_29 : decode cX2_digest 29 = .ok (.getfield 19, 3) := by decide +kernel
theorem dX2_digest_32 : decode cX2_digest 32 = .ok (.iload_n 2, 1) := by decide +kernel
theorem dX2_digest_33 : decode cX2_digest 33 = .ok (.iaload, 1) := by decide +kernel
theorem dX2_digest_34 : decode cX2_digest 34 = .ok (.iadd, 1) := by decide +kernel
theorem dX2_digest_35 : decode cX2_digest 35 = .ok (.if_icmp .ge 43, 3) := by decide +kernel
theorem dX2_digest_38 : decode cX2_digest 38 = .ok (.iload_n 3, 1) := by decide +kernel
theorem dX2_digest_39 : decode cX2_digest 39 = .ok (.bipush 31, 2) := by decide +kernel
theorem dX2_digest_41 : decode cX2_digest 41 = .ok (.imul, 1) := by decide +kernel
theorem dX2_digest_42 : decode cX2_digest 42 = .ok (.aload_n 0, 1) := by decide +kernel
theorem dX2_digest_43 : decode cX2_digest 43 = .ok (.getfield 9, 3) := by decide +kernel
theorem dX2_digest_46 : decode cX2_digest 46 = .ok (.iload 4, 2) := by decide +kernel
theorem dX2_digest_48 : decode cX2_digest 48 = .ok (.iaload, 1) := by decide +kernel
theorem dX2_digest_49 : decode cX2_digest 49 = .ok (.iadd, 1) := by decide +kernel
theorem dX2_digest_50 : decode cX2_digest 50 = .ok (.istore_n 3, 1) := by decide +kernel
theorem dX2_digest_51 : decode cX2_digest 51 = .ok (.iload_n 3, 1) := by decide +kernel
theorem dX2_digest_52 : decode cX2_digest 52 = .ok (.bipush 31, 2) := by decide +kernel
theorem dX2_digest_54 : decode cX2_digest 54 = .ok (.imul, 1) := by decide +kernel
theorem dX2_digest_55 : decode cX2_digest 55 = .ok (.aload_n 0, 1) := by decide +kernel
theorem dX2_digest_56 : decode cX2_digest 56 = .ok (.getfield 13, 3) := by decide +kernel
theorem dX2_digest_59 : decode cX2_digest 59 = .ok (.iload 4, 2) := by decide +kernel
theorem dX2_digest_61 : decode cX2_digest 61 = .ok (.iaload, 1) := by decide +kernel
theorem dX2_digest_62 : decode cX2_digest 62 = .ok (.iadd, 1) := by decide +kernel
theorem dX2_digest_63 : decode cX2_digest 63 = .ok (.aload_n 0, 1) := by decide +kernel
theorem dX2_digest_64 : decode cX2_digest 64 = .ok (.getfield 16, 3) := by decide +kernel
theorem dX2_digest_67 : decode cX2_digest 67 = .ok (.iload 4, 2) := by decide +kernel
theorem dX2_digest_69 : decode cX2_digest 69 = .ok (.iaload, 1) := by decide +kernel
theorem dX2_digest_70 : decode cX2_digest 70 = .ok (.iadd, 1) := by decide +kernel
theorem dX2_digest_71 : decode cX2_digest 71 = .ok (.istore_n 3, 1) := by decide +kernel
theorem dX2_digest_72 : decode cX2_digest 72 = .ok (.iinc 4 1, 3) := by decide +kernel
theorem dX2_digest_75 : decode cX2_digest 75 = .ok (.goto (-54), 3) := by decide +kernel
theorem dX2_digest_78 : decode cX2_digest 78 = .ok (.iload_n 3, 1) := by decide +kernel
theorem dX2_digest_79 : decode cX2_digest 79 = .ok (.ireturn, 1) := by decide +kernel
set_option maxRecDepth 20000 in
theorem gX2_digest_X2_table : GoodIn wsX2_digest (wsV RX2 45 RX2 yX2_table wsX2_table) := goodIn_p _ [9] rfl (by decide +kernel)
set_option maxRecDepth 20000 in
theorem gL_law_X2_digest : GoodIn lw_tbl (wsV RL 62 RX2 yX2_digest wsX2_digest) := goodIn_p _ [248, 230] (by decide +kernel) (by decide +kernel)
end
section
-- PURE: the table, its steps, the state, the law's eleven calls as functions
theorem i_tr {a b c : Int32} (h : a < b) (g : b < c) : a < c := by
  have h5 := Int32.lt_iff_toInt_lt.mp h
  have h6 := Int32.lt_iff_toInt_lt.mp g
  exact Int32.lt_iff_toInt_lt.mpr (by omega)
theorem i_gt {a b : Int32} (h : ¬ b < a) (g : b ≠ a) : a < b := by
  have h1 : ¬ b.toInt < a.toInt := fun q => h (Int32.lt_iff_toInt_lt.mpr q)
  have h2 : b.toInt ≠ a.toInt := fun q => g (Int32.toInt_inj.mp q)
  exact Int32.lt_iff_toInt_lt.mpr (by omega)
theorem i_ir {a : Int32} : ¬ a < a := fun h => by
  have h5 := Int32.lt_iff_toInt_lt.mp h
  omega
theorem i_as {a b : Int32} (h : a < b) : ¬ b < a := fun g => i_ir (i_tr h g)
theorem i_le {a b : Int32} (h : ¬ a < b) : b ≤ a := by
  have h1 : ¬ a.toInt < b.toInt := fun q => h (Int32.lt_iff_toInt_lt.mpr q)
  exact Int32.le_iff_toInt_le.mpr (by omega)
theorem i_nl {a b : Int32} (h : b ≤ a) : ¬ a < b := fun g => by
  have h5 := Int32.lt_iff_toInt_lt.mp g
  have h6 := Int32.le_iff_toInt_le.mp h
  omega
theorem i_lt {a b : Int32} (h : ¬ b ≤ a) : a < b := by
  have h1 : ¬ b.toInt ≤ a.toInt := fun q => h (Int32.le_iff_toInt_le.mpr q)
  exact Int32.lt_iff_toInt_lt.mpr (by omega)
def bz (P : Prop) [Decidable P] : Int32 := if P then 1 else 0
theorem bz_t {P : Prop} [Decidable P] (h : P) : bz P = 1 := if_pos h
theorem bz_f {P : Prop} [Decidable P] (h : ¬ P) : bz P = 0 := if_neg h
def ag (n : Nat) (f g : Nat → Int32) : Prop := ∀ j, j < n → f j = g j
theorem ag_rf {n : Nat} {f : Nat → Int32} : ag n f f := fun _ _ => rfl
theorem ag_sy {n : Nat} {f g : Nat → Int32} (h : ag n f g) : ag n g f := fun j hj => (h j hj).symm
theorem ag_tr {n : Nat} {f g k : Nat → Int32} (h : ag n f g) (h2 : ag n g k) : ag n f k := fun j hj => (h j hj).trans (h2 j hj)
def sr (n : Nat) (K : Nat → Int32) : Prop := ∀ i j, i < j → j < n → K i < K j
def plF (K : Nat → Int32) (k : Int32) : Nat → Nat → Nat
  | 0, p => p
  | f + 1, p => if K p < k then plF K k f (p + 1) else p
def pl (n : Nat) (K : Nat → Int32) (k : Int32) : Nat := plF K k n 0
def isPl (n : Nat) (K : Nat → Int32) (k : Int32) (p : Nat) : Prop := p ≤ n ∧ (∀ j, j < p → K j < k) ∧ (p < n → ¬ K p < k)
theorem plF_ok (K : Nat → Int32) (k : Int32) : ∀ (f p : Nat), (∀ j, j < p → K j < k) → isPl (p + f) K k (plF K k f p)
  | 0, p, h => ⟨Nat.le_refl _, h, fun q => absurd q (Nat.lt_irrefl _)⟩
  | f + 1, p, h => by
    unfold plF
    by_cases c : K p < k
    · rw [if_pos c]
      have h9 := plF_ok K k f (p + 1) (fun j hj => by
        rcases Nat.lt_or_ge j p with q | q
        · exact h j q
        · have e : j = p := by omega
          subst e; exact c)
      rw [show p + (f + 1) = p + 1 + f by omega]
      exact h9
    · rw [if_neg c]
      exact ⟨by omega, h, fun _ => c⟩
theorem pl_ok (n : Nat) (K : Nat → Int32) (k : Int32) : isPl n K k (pl n K k) := by
  have h := plF_ok K k n 0 (fun j h => absurd h (Nat.not_lt_zero _))
  rw [Nat.zero_add] at h
  exact h
theorem isPl_u {n : Nat} {K : Nat → Int32} {k : Int32} {p q : Nat} (h1 : isPl n K k p) (h2 : isPl n K k q) : p = q := by
  rcases Nat.lt_trichotomy p q with h | h | h
  · exact absurd (h2.2.1 p h) (h1.2.2 (Nat.lt_of_lt_of_le h h2.1))
  · exact h
  · exact absurd (h1.2.1 q h) (h2.2.2 (Nat.lt_of_lt_of_le h h1.1))
theorem isPl_pl {n : Nat} {K : Nat → Int32} {k : Int32} {p : Nat} (h1 : isPl n K k p) : p = pl n K k := isPl_u h1 (pl_ok n K k)
theorem isPl_ag {n : Nat} {K L : Nat → Int32} {k : Int32} {p : Nat} (h : ag n K L) (hp : isPl n K k p) : isPl n L k p :=
  ⟨hp.1, fun j hj => by rw [← h j (Nat.lt_of_lt_of_le hj hp.1)]; exact hp.2.1 j hj, fun hl => by rw [← h p hl]; exact hp.2.2 hl⟩
theorem pl_ag {n : Nat} {K L : Nat → Int32} {k : Int32} (h : ag n K L) : pl n K k = pl n L k := isPl_pl (isPl_ag h (pl_ok n K k))
theorem pl_le (n : Nat) (K : Nat → Int32) (k : Int32) : pl n K k ≤ n := (pl_ok n K k).1
-- putting in and taking out
def ins (f : Nat → Int32) (p : Nat) (x : Int32) : Nat → Int32 := fun j => if j < p then f j else if j = p then x else f (j - 1)
def del (f : Nat → Int32) (p : Nat) : Nat → Int32 := fun j => if j < p then f j else f (j + 1)
theorem ins_ag {n p : Nat} {f g : Nat → Int32} {x : Int32} (h : ag n f g) (hp : p ≤ n) : ag (n + 1) (ins f p x) (ins g p x) := by
  intro j hj
  unfold ins
  by_cases c1 : j < p
  · rw [if_pos c1, if_pos c1]; exact h j (by omega)
  · by_cases c2 : j = p
    · rw [if_neg c1, if_neg c1, if_pos c2, if_pos c2]
    · rw [if_neg c1, if_neg c1, if_neg c2, if_neg c2]; exact h (j - 1) (by omega)
theorem del_ag {n p : Nat} {f g : Nat → Int32} (h : ag n f g) : ag (n - 1) (del f p) (del g p) := by
  intro j hj
  unfold del
  by_cases c1 : j < p
  · rw [if_pos c1, if_pos c1]; exact h j (by omega)
  · rw [if_neg c1, if_neg c1]; exact h (j + 1) (by omega)
theorem upd_ag {n p : Nat} {f g : Nat → Int32} {x : Int32} (h : ag n f g) : ag n (upd f p x) (upd g p x) := by
  intro j hj
  unfold upd
  by_cases c : j = p
  · rw [if_pos c, if_pos c]
  · rw [if_neg c, if_neg c]; exact h j hj
theorem ins_sr {n p : Nat} {K : Nat → Int32} {k : Int32} (hs : sr n K) (hp : isPl n K k p) (hh : ¬ (p < n ∧ K p = k)) : sr (n + 1) (ins K p k) := by
  intro i j hij hj
  have e1 : ∀ a, a < p → K a < k := hp.2.1
  have e2 : ∀ b, p ≤ b → b < n → k < K b := by
    intro b hb hbn
    have h1 : ¬ K p < k := hp.2.2 (by omega)
    have h2 : K p ≠ k := fun q => hh ⟨by omega, q⟩
    have h3 : k < K p := i_gt h1 h2
    rcases Nat.eq_or_lt_of_le hb with q | q
    · rw [← q]; exact h3
    · exact i_tr h3 (hs p b q hbn)
  unfold ins
  by_cases c1 : j < p
  · rw [if_pos c1, if_pos (show i < p by omega)]
    exact hs i j hij (by have := hp.1; omega)
  · by_cases c2 : j = p
    · rw [if_neg c1, if_pos c2, if_pos (show i < p by omega)]
      exact e1 i (by omega)
    · rw [if_neg c1, if_neg c2]
      by_cases c3 : i < p
      · rw [if_pos c3]; exact hs i (j - 1) (by omega) (by omega)
      · by_cases c4 : i = p
        · rw [if_neg c3, if_pos c4]; exact e2 (j - 1) (by omega) (by omega)
        · rw [if_neg c3, if_neg c4]; exact hs (i - 1) (j - 1) (by omega) (by omega)
theorem del_sr {n p : Nat} {K : Nat → Int32} (hs : sr n K) : sr (n - 1) (del K p) := by
  intro i j hij hj
  unfold del
  by_cases c1 : j < p
  · rw [if_pos c1, if_pos (show i < p by omega)]; exact hs i j hij (by omega)
  · rw [if_neg c1]
    by_cases c3 : i < p
    · rw [if_pos c3]; exact hs i (j + 1) (by omega) (by omega)
    · rw [if_neg c3]; exact hs (i + 1) (j + 1) (by omega) (by omega)
-- a table: how many, keys, values, sizes
abbrev TB : Type := Nat × (Nat → Int32) × (Nat → Int32) × (Nat → Int32)
abbrev tPl (T : TB) (k : Int32) : Nat := pl T.1 T.2.1 k
abbrev tHas (T : TB) (k : Int32) : Prop := pl T.1 T.2.1 k < T.1 ∧ T.2.1 (pl T.1 T.2.1 k) = k
def eqT (X Y : TB) : Prop := X.1 = Y.1 ∧ ag X.1 X.2.1 Y.2.1 ∧ ag X.1 X.2.2.1 Y.2.2.1 ∧ ag X.1 X.2.2.2 Y.2.2.2
def okT (T : TB) : Prop := T.1 ≤ 400 ∧ sr T.1 T.2.1
theorem eqT_rf {X : TB} : eqT X X := ⟨rfl, ag_rf, ag_rf, ag_rf⟩
theorem eqT_sy {X Y : TB} (h : eqT X Y) : eqT Y X := by
  obtain ⟨h1, h2, h3, h4⟩ := h
  exact ⟨h1.symm, by rw [← h1]; exact ag_sy h2, by rw [← h1]; exact ag_sy h3, by rw [← h1]; exact ag_sy h4⟩
theorem eqT_tr {X Y Z : TB} (h : eqT X Y) (g : eqT Y Z) : eqT X Z := by
  obtain ⟨h1, h2, h3, h4⟩ := h
  obtain ⟨g1, g2, g3, g4⟩ := g
  rw [← h1] at g2 g3 g4
  exact ⟨h1.trans g1, ag_tr h2 g2, ag_tr h3 g3, ag_tr h4 g4⟩
theorem okT_eq {X Y : TB} (h : eqT X Y) (g : okT X) : okT Y := by
  obtain ⟨h1, h2, -, -⟩ := h
  refine ⟨by rw [← h1]; exact g.1, fun i j hij hj => ?_⟩
  rw [← h1] at hj
  rw [← h2 i (by omega), ← h2 j hj]
  exact g.2 i j hij hj
theorem eqT_pl {X Y : TB} (h : eqT X Y) (k : Int32) : tPl X k = tPl Y k := by
  obtain ⟨h1, h2, -, -⟩ := h
  show pl X.1 X.2.1 k = pl Y.1 Y.2.1 k
  rw [← h1]
  exact pl_ag h2
theorem eqT_has1 {X Y : TB} (h : eqT X Y) {k : Int32} (g : tHas X k) : tHas Y k := by
  have e : pl X.1 X.2.1 k = pl Y.1 Y.2.1 k := eqT_pl h k
  obtain ⟨h1, h2, -, -⟩ := h
  obtain ⟨g1, g2⟩ := g
  refine ⟨by rw [← e, ← h1]; exact g1, ?_⟩
  rw [← e, ← h2 _ g1]
  exact g2
theorem eqT_has {X Y : TB} (h : eqT X Y) (k : Int32) : tHas X k ↔ tHas Y k := ⟨eqT_has1 h, eqT_has1 (eqT_sy h)⟩
def tEnter (T : TB) (k v z : Int32) : Int32 × TB :=
  if tHas T k then (0, T.1, T.2.1, upd T.2.2.1 (tPl T k) v, upd T.2.2.2 (tPl T k) z)
  else if 400 ≤ T.1 then (-3, T)
  else (1, T.1 + 1, ins T.2.1 (tPl T k) k, ins T.2.2.1 (tPl T k) v, ins T.2.2.2 (tPl T k) z)
theorem tEnter_h {T : TB} {k : Int32} (v z : Int32) (h : tHas T k) : tEnter T k v z = (0, T.1, T.2.1, upd T.2.2.1 (tPl T k) v, upd T.2.2.2 (tPl T k) z) := if_pos h
theorem tEnter_f {T : TB} {k : Int32} (v z : Int32) (h : ¬ tHas T k) (g : 400 ≤ T.1) : tEnter T k v z = (-3, T) := by
  unfold tEnter; rw [if_neg h, if_pos g]
theorem tEnter_n {T : TB} {k : Int32} (v z : Int32) (h : ¬ tHas T k) (g : ¬ 400 ≤ T.1) : tEnter T k v z = (1, T.1 + 1, ins T.2.1 (tPl T k) k, ins T.2.2.1 (tPl T k) v, ins T.2.2.2 (tPl T k) z) := by
  unfold tEnter; rw [if_neg h, if_neg g]
theorem tEnter_eq {X Y : TB} (h : eqT X Y) (k v z : Int32) : (tEnter X k v z).1 = (tEnter Y k v z).1 ∧ eqT (tEnter X k v z).2 (tEnter Y k v z).2 := by
  have e := eqT_pl h k
  have hh := eqT_has h k
  have hle : tPl X k ≤ X.1 := pl_le _ _ _
  by_cases c : tHas X k
  · rw [tEnter_h v z c, tEnter_h v z (hh.mp c), ← e]
    obtain ⟨h1, h2, h3, h4⟩ := h
    exact ⟨rfl, h1, h2, upd_ag h3, upd_ag h4⟩
  · have c' : ¬ tHas Y k := fun q => c (hh.mpr q)
    by_cases d : 400 ≤ X.1
    · rw [tEnter_f v z c d, tEnter_f v z c' (by rw [← h.1]; exact d)]
      exact ⟨rfl, h⟩
    · rw [tEnter_n v z c d, tEnter_n v z c' (by rw [← h.1]; exact d), ← e]
      obtain ⟨h1, h2, h3, h4⟩ := h
      exact ⟨rfl, by show X.1 + 1 = Y.1 + 1; rw [h1], ins_ag h2 hle, ins_ag h3 hle, ins_ag h4 hle⟩
theorem tEnter_ok {T : TB} (h : okT T) (k v z : Int32) : okT (tEnter T k v z).2 := by
  by_cases c : tHas T k
  · rw [tEnter_h v z c]; exact h
  · by_cases d : 400 ≤ T.1
    · rw [tEnter_f v z c d]; exact h
    · rw [tEnter_n v z c d]
      exact ⟨by show T.1 + 1 ≤ 400; omega, ins_sr h.2 (pl_ok _ _ _) c⟩
def tDrop (T : TB) (k : Int32) : TB := if tHas T k then (T.1 - 1, del T.2.1 (tPl T k), del T.2.2.1 (tPl T k), del T.2.2.2 (tPl T k)) else T
theorem tDrop_h {T : TB} {k : Int32} (h : tHas T k) : tDrop T k = (T.1 - 1, del T.2.1 (tPl T k), del T.2.2.1 (tPl T k), del T.2.2.2 (tPl T k)) := if_pos h
theorem tDrop_n {T : TB} {k : Int32} (h : ¬ tHas T k) : tDrop T k = T := if_neg h
theorem tDrop_eq {X Y : TB} (h : eqT X Y) (k : Int32) : eqT (tDrop X k) (tDrop Y k) := by
  have e := eqT_pl h k
  have hh := eqT_has h k
  by_cases c : tHas X k
  · rw [tDrop_h c, tDrop_h (hh.mp c), ← e]
    obtain ⟨h1, h2, h3, h4⟩ := h
    exact ⟨by show X.1 - 1 = Y.1 - 1; rw [h1], del_ag h2, del_ag h3, del_ag h4⟩
  · rw [tDrop_n c, tDrop_n (fun q => c (hh.mpr q))]; exact h
theorem tDrop_ok {T : TB} (h : okT T) (k : Int32) : okT (tDrop T k) := by
  by_cases c : tHas T k
  · rw [tDrop_h c]; exact ⟨by show T.1 - 1 ≤ 400; have := h.1; omega, del_sr h.2⟩
  · rw [tDrop_n c]; exact h
def dgF (K V S : Nat → Int32) : Nat → Int32
  | 0 => nI 0
  | i + 1 => (dgF K V S i * nI 31 + K i) * nI 31 + V i + S i
def tDg (T : TB) : Int32 := dgF T.2.1 T.2.2.1 T.2.2.2 T.1
theorem dgF_ag {K V S K' V' S' : Nat → Int32} : ∀ n, ag n K K' → ag n V V' → ag n S S' → dgF K V S n = dgF K' V' S' n
  | 0, _, _, _ => rfl
  | n + 1, h1, h2, h3 => by
    show (dgF K V S n * nI 31 + K n) * nI 31 + V n + S n = (dgF K' V' S' n * nI 31 + K' n) * nI 31 + V' n + S' n
    rw [dgF_ag n (fun j hj => h1 j (by omega)) (fun j hj => h2 j (by omega)) (fun j hj => h3 j (by omega)), h1 n (by omega), h2 n (by omega), h3 n (by omega)]
theorem tDg_eq {X Y : TB} (h : eqT X Y) : tDg X = tDg Y := by
  obtain ⟨h1, h2, h3, h4⟩ := h
  unfold tDg
  rw [← h1]
  exact dgF_ag _ h2 h3 h4
-- what System.arraycopy and the writes make of a row
theorem cpy_up {n p : Nat} {f : Nat → Int32} {x : Int32} (hp : p ≤ n) : ag (n + 1) (upd (va_cpy f f p (p + 1) (n - p)) p x) (ins f p x) := by
  intro j hj
  unfold upd ins va_cpy
  by_cases c1 : j = p
  · rw [if_pos c1, if_neg (show ¬ j < p by omega), if_pos c1]
  · rw [if_neg c1]
    by_cases c2 : j < p
    · rw [if_neg (by omega), if_pos c2]
    · rw [if_pos (by omega), if_neg c2, if_neg c1]
      congr 1
      omega
theorem cpy_dn {n p : Nat} {f : Nat → Int32} (hp : p < n) : ag (n - 1) (va_cpy f f (p + 1) p (n - (p + 1))) (del f p) := by
  intro j hj
  unfold del va_cpy
  by_cases c2 : j < p
  · rw [if_neg (by omega), if_pos c2]
  · rw [if_pos (by omega), if_neg c2]
    congr 1
    omega
theorem cpy_all {n : Nat} {f g : Nat → Int32} : ag n (va_cpy f g 0 0 n) f := by
  intro j hj
  unfold va_cpy
  rw [if_pos (by omega)]
  congr 1
  omega
-- the state: three kept tables, the worked one, the readers' revisions, the latest
abbrev RS : Type := TB × TB × TB × TB × (Nat → Nat) × Nat
def tsel (a : RS) (t : Nat) : TB := match t with
  | 0 => a.1
  | 1 => a.2.1
  | 2 => a.2.2.1
  | _ => a.2.2.2.1
def tset (a : RS) (t : Nat) (T : TB) : RS := match t with
  | 0 => (T, a.2)
  | 1 => (a.1, T, a.2.2)
  | 2 => (a.1, a.2.1, T, a.2.2.2)
  | _ => (a.1, a.2.1, a.2.2.1, T, a.2.2.2.2)
abbrev rW (a : RS) : TB := a.2.2.2.1
abbrev rRd (a : RS) : Nat → Nat := a.2.2.2.2.1
abbrev rL (a : RS) : Nat := a.2.2.2.2.2
def eqR (a b : RS) : Prop := (∀ t, t < 4 → eqT (tsel a t) (tsel b t)) ∧ (∀ r, r < 4 → rRd a r = rRd b r) ∧ rL a = rL b
def okR (L : Nat) (a : RS) : Prop := (∀ t, t < 4 → okT (tsel a t)) ∧ (∀ r, r < 4 → rRd a r ≤ rL a) ∧ rL a ≤ L
theorem okR_up {L M : Nat} {a : RS} (h : okR L a) (g : L ≤ M) : okR M a := ⟨h.1, h.2.1, Nat.le_trans h.2.2 g⟩
theorem eqR_rf {a : RS} : eqR a a := ⟨fun _ _ => eqT_rf, fun _ _ => rfl, rfl⟩
theorem eqR_sy {a b : RS} (h : eqR a b) : eqR b a := ⟨fun t q => eqT_sy (h.1 t q), fun r q => (h.2.1 r q).symm, h.2.2.symm⟩
theorem eqR_tr {a b c : RS} (h : eqR a b) (g : eqR b c) : eqR a c := ⟨fun t q => eqT_tr (h.1 t q) (g.1 t q), fun r q => (h.2.1 r q).trans (g.2.1 r q), h.2.2.trans g.2.2⟩
theorem okR_eq {L : Nat} {a b : RS} (h : eqR a b) (g : okR L a) : okR L b := by
  refine ⟨fun t q => okT_eq (h.1 t q) (g.1 t q), fun r q => ?_, ?_⟩
  · rw [← h.2.1 r q, ← h.2.2]; exact g.2.1 r q
  · rw [← h.2.2]; exact g.2.2
theorem tset_same (a : RS) {t : Nat} (T : TB) (ht : t < 4) : tsel (tset a t T) t = T := by
  rcases (show t = 0 ∨ t = 1 ∨ t = 2 ∨ t = 3 by omega) with h | h | h | h <;> subst h <;> rfl
theorem tset_ne (a : RS) {t u : Nat} (T : TB) (ht : t < 4) (hu : u < 4) (h : u ≠ t) : tsel (tset a t T) u = tsel a u := by
  rcases (show t = 0 ∨ t = 1 ∨ t = 2 ∨ t = 3 by omega) with h1 | h1 | h1 | h1 <;> subst h1 <;>
    rcases (show u = 0 ∨ u = 1 ∨ u = 2 ∨ u = 3 by omega) with h2 | h2 | h2 | h2 <;> subst h2 <;> first | rfl | exact absurd rfl h
theorem tset_rd (a : RS) (t : Nat) (T : TB) : rRd (tset a t T) = rRd a := by
  unfold tset; split <;> rfl
theorem tset_L (a : RS) (t : Nat) (T : TB) : rL (tset a t T) = rL a := by
  unfold tset; split <;> rfl
theorem tset_eq {a b : RS} {X Y : TB} {t : Nat} (ht : t < 4) (h : eqR a b) (g : eqT X Y) : eqR (tset a t X) (tset b t Y) := by
  refine ⟨fun u hu => ?_, fun r hr => ?_, ?_⟩
  · by_cases c : u = t
    · subst c; rw [tset_same a X ht, tset_same b Y ht]; exact g
    · rw [tset_ne a X ht hu c, tset_ne b Y ht hu c]; exact h.1 u hu
  · rw [tset_rd, tset_rd]; exact h.2.1 r hr
  · rw [tset_L, tset_L]; exact h.2.2
theorem tset_ok {L : Nat} {a : RS} {X : TB} {t : Nat} (ht : t < 4) (h : okR L a) (g : okT X) : okR L (tset a t X) := by
  refine ⟨fun u hu => ?_, fun r hr => ?_, ?_⟩
  · by_cases c : u = t
    · subst c; rw [tset_same a X ht]; exact g
    · rw [tset_ne a X ht hu c]; exact h.1 u hu
  · rw [tset_rd, tset_L]; exact h.2.1 r hr
  · rw [tset_L]; exact h.2.2
-- the eleven calls
def aPut (a : RS) (k v z : Int32) : Int32 × RS := if z < 0 ∨ 300 < z then (-1, a) else ((tEnter (tsel a 3) k v z).1, tset a 3 (tEnter (tsel a 3) k v z).2)
def zsz (v : Int32) (i : Nat) : Int32 := if i % 2 = 0 then 0 else (v + nI (7 * i)) &&& nI 127
def someF (T : TB) (fr st v : Int32) : Nat → Nat × TB
  | 0 => (0, T)
  | i + 1 => (if (tEnter (someF T fr st v i).2 (fr + nI i * st) (v + nI i) (zsz v i)).1 = 1 then (someF T fr st v i).1 + 1 else (someF T fr st v i).1, (tEnter (someF T fr st v i).2 (fr + nI i * st) (v + nI i) (zsz v i)).2)
def aSome (a : RS) (fr st many v : Int32) : Int32 × RS := if many < 1 ∨ 60 < many then (-1, a) else (nI (someF (tsel a 3) fr st v many.toNatClampNeg).1, tset a 3 (someF (tsel a 3) fr st v many.toNatClampNeg).2)
def aRemove (a : RS) (k : Int32) : Int32 × RS := if tHas (tsel a 3) k then (nI ((tsel a 3).1 - 1), tset a 3 (tDrop (tsel a 3) k)) else (-2, a)
def rUp (a : RS) : RS := (a.1, a.2.1, a.2.2.1, a.2.2.2.1, a.2.2.2.2.1, a.2.2.2.2.2 + 1)
def rRs (a : RS) (f : Nat → Nat) : RS := (a.1, a.2.1, a.2.2.1, a.2.2.2.1, f, a.2.2.2.2.2)
def aCommit (a : RS) (cut : Int32) : Int32 × RS := if cut < 0 then (nI (rL a + 1), tset (rUp a) ((rL a + 1) % 3) (tsel a 3)) else (-5, tset a 3 (tsel a (rL a % 3)))
def aForget (a : RS) : Int32 × RS := (nI (tsel a (rL a % 3)).1, tset a 3 (tsel a (rL a % 3)))
def aOpen (a : RS) (r : Int32) : Int32 × RS := if r < 0 ∨ 3 < r then (-1, a) else (nI (rL a), rRs a (va_up (rRd a) r.toNatClampNeg (rL a)))
def aSt (a : RS) (r : Int32) : Int32 := if r < -1 ∨ 3 < r then -1 else if 0 ≤ r ∧ rRd a r.toNatClampNeg + 3 ≤ rL a then -4 else 0
def aTb (a : RS) (r : Int32) : Nat := if r < 0 then 3 else rRd a r.toNatClampNeg % 3
def aGet (a : RS) (r k : Int32) : Int64 := if aSt a r = 0 then (if tHas (tsel a (aTb a r)) k then ((tsel a (aTb a r)).2.2.1 (tPl (tsel a (aTb a r)) k)).toInt64 else 1099511627774) else 1099511627776 + (aSt a r).toInt64
def tAb (T : TB) (k : Int32) : Nat := if tHas T k then tPl T k + 1 else tPl T k
def aNext (a : RS) (r k : Int32) : Int64 := if aSt a r = 0 then (if tAb (tsel a (aTb a r)) k < (tsel a (aTb a r)).1 then ((tsel a (aTb a r)).2.1 (tAb (tsel a (aTb a r)) k)).toInt64 else 1099511627774) else 1099511627776 + (aSt a r).toInt64
def aSize (a : RS) (r k : Int32) : Int32 := if aSt a r = 0 then (if tHas (tsel a (aTb a r)) k then (tsel a (aTb a r)).2.2.2 (tPl (tsel a (aTb a r)) k) else -2) else aSt a r
def aCount (a : RS) (r : Int32) : Int32 := if aSt a r = 0 then nI (tsel a (aTb a r)).1 else aSt a r
def aDigest (a : RS) (r : Int32) : Int32 := if aSt a r = 0 then tDg (tsel a (aTb a r)) else aSt a r
-- numbers of a reader
theorem r_in {r : Int32} (h1 : ¬ r < 0) (h2 : ¬ 3 < r) : ∃ j : Nat, j < 4 ∧ r = nI j ∧ r.toNatClampNeg = j := by
  obtain ⟨j, hj, e⟩ := nI_of2 (x := r) (M := 3) (n := 3) (by decide) h1 (i_le h2)
  exact ⟨j, by omega, e, by rw [e]; exact nI_clamp (by omega)⟩
theorem r_ge {r : Int32} (h : 0 ≤ r) : ¬ r < 0 := i_nl h
-- the same answers and states from states that agree
theorem eqT_tEnter {X Y : TB} (h : eqT X Y) (k v z : Int32) : eqT (tEnter X k v z).2 (tEnter Y k v z).2 := (tEnter_eq h k v z).2
theorem aPut_eq {a b : RS} (h : eqR a b) (k v z : Int32) : (aPut a k v z).1 = (aPut b k v z).1 ∧ eqR (aPut a k v z).2 (aPut b k v z).2 := by
  have e := tEnter_eq (h.1 3 (by decide)) k v z
  unfold aPut
  by_cases c : z < 0 ∨ 300 < z
  · rw [if_pos c, if_pos c]; exact ⟨rfl, h⟩
  · rw [if_neg c, if_neg c]; exact ⟨e.1, tset_eq (by decide) h e.2⟩
theorem someF_eq {X Y : TB} (h : eqT X Y) (fr st v : Int32) : ∀ i, (someF X fr st v i).1 = (someF Y fr st v i).1 ∧ eqT (someF X fr st v i).2 (someF Y fr st v i).2
  | 0 => ⟨rfl, h⟩
  | i + 1 => by
    obtain ⟨e1, e2⟩ := someF_eq h fr st v i
    obtain ⟨g1, g2⟩ := tEnter_eq e2 (fr + nI i * st) (v + nI i) (zsz v i)
    refine ⟨?_, g2⟩
    show (if _ then _ else _) = (if _ then _ else _)
    rw [g1, e1]
theorem someF_ok {X : TB} (h : okT X) (fr st v : Int32) : ∀ i, okT (someF X fr st v i).2
  | 0 => h
  | i + 1 => tEnter_ok (someF_ok h fr st v i) _ _ _
theorem someF_le (X : TB) (fr st v : Int32) : ∀ i, (someF X fr st v i).1 ≤ i
  | 0 => Nat.le_refl _
  | i + 1 => by
    have h := someF_le X fr st v i
    by_cases c : (tEnter (someF X fr st v i).2 (fr + nI i * st) (v + nI i) (zsz v i)).1 = 1
    · have e : (someF X fr st v (i + 1)).1 = (someF X fr st v i).1 + 1 := if_pos c
      omega
    · have e : (someF X fr st v (i + 1)).1 = (someF X fr st v i).1 := if_neg c
      omega
theorem aSome_eq {a b : RS} (h : eqR a b) (fr st many v : Int32) : (aSome a fr st many v).1 = (aSome b fr st many v).1 ∧ eqR (aSome a fr st many v).2 (aSome b fr st many v).2 := by
  have e := someF_eq (h.1 3 (by decide)) fr st v many.toNatClampNeg
  unfold aSome
  by_cases c : many < 1 ∨ 60 < many
  · rw [if_pos c, if_pos c]; exact ⟨rfl, h⟩
  · rw [if_neg c, if_neg c]; exact ⟨by show nI _ = nI _; rw [e.1], tset_eq (by decide) h e.2⟩
theorem aRemove_eq {a b : RS} (h : eqR a b) (k : Int32) : (aRemove a k).1 = (aRemove b k).1 ∧ eqR (aRemove a k).2 (aRemove b k).2 := by
  have e := h.1 3 (by decide)
  unfold aRemove
  by_cases c : tHas (tsel a 3) k
  · rw [if_pos c, if_pos (eqT_has1 e c)]; exact ⟨by show nI _ = nI _; rw [e.1], tset_eq (by decide) h (tDrop_eq e k)⟩
  · rw [if_neg c, if_neg (fun q => c ((eqT_has e k).mpr q))]; exact ⟨rfl, h⟩
theorem rUp_eq {a b : RS} (h : eqR a b) : eqR (rUp a) (rUp b) := by
  refine ⟨fun t ht => ?_, h.2.1, ?_⟩
  · have e := h.1 t ht
    rcases (show t = 0 ∨ t = 1 ∨ t = 2 ∨ t = 3 by omega) with h1 | h1 | h1 | h1 <;> subst h1 <;> exact e
  · show rL a + 1 = rL b + 1
    rw [h.2.2]
theorem rUp_ok {L : Nat} {a : RS} (h : okR L a) : okR (L + 1) (rUp a) := by
  refine ⟨fun t ht => ?_, fun r hr => ?_, ?_⟩
  · have e := h.1 t ht
    rcases (show t = 0 ∨ t = 1 ∨ t = 2 ∨ t = 3 by omega) with h1 | h1 | h1 | h1 <;> subst h1 <;> exact e
  · have e := h.2.1 r hr
    show rRd a r ≤ rL a + 1
    omega
  · have e := h.2.2
    show rL a + 1 ≤ L + 1
    omega
theorem rt_m3 (n : Nat) : n % 3 < 4 := by omega
theorem aCommit_eq {a b : RS} (h : eqR a b) (cut : Int32) : (aCommit a cut).1 = (aCommit b cut).1 ∧ eqR (aCommit a cut).2 (aCommit b cut).2 := by
  unfold aCommit
  by_cases c : cut < 0
  · rw [if_pos c, if_pos c, ← h.2.2]; exact ⟨rfl, tset_eq (rt_m3 _) (rUp_eq h) (h.1 3 (by decide))⟩
  · rw [if_neg c, if_neg c, ← h.2.2]; exact ⟨rfl, tset_eq (by decide) h (h.1 _ (rt_m3 _))⟩
theorem aForget_eq {a b : RS} (h : eqR a b) : (aForget a).1 = (aForget b).1 ∧ eqR (aForget a).2 (aForget b).2 := by
  unfold aForget
  rw [← h.2.2]
  exact ⟨by show nI _ = nI _; rw [(h.1 _ (rt_m3 _)).1], tset_eq (by decide) h (h.1 _ (rt_m3 _))⟩
theorem rRs_eq {a b : RS} (h : eqR a b) {f g : Nat → Nat} (hf : ∀ r, r < 4 → f r = g r) : eqR (rRs a f) (rRs b g) := by
  refine ⟨fun t ht => ?_, hf, h.2.2⟩
  have e := h.1 t ht
  rcases (show t = 0 ∨ t = 1 ∨ t = 2 ∨ t = 3 by omega) with h1 | h1 | h1 | h1 <;> subst h1 <;> exact e
theorem aOpen_eq {a b : RS} (h : eqR a b) (r : Int32) : (aOpen a r).1 = (aOpen b r).1 ∧ eqR (aOpen a r).2 (aOpen b r).2 := by
  unfold aOpen
  by_cases c : r < 0 ∨ 3 < r
  · rw [if_pos c, if_pos c]; exact ⟨rfl, h⟩
  · rw [if_neg c, if_neg c, h.2.2]
    refine ⟨rfl, rRs_eq h fun j hj => ?_⟩
    unfold va_up
    by_cases d : j = r.toNatClampNeg
    · rw [if_pos d, if_pos d]
    · rw [if_neg d, if_neg d]; exact h.2.1 j hj
theorem aSt_eq {a b : RS} (h : eqR a b) (r : Int32) : aSt a r = aSt b r := by
  unfold aSt
  by_cases c : r < -1 ∨ 3 < r
  · rw [if_pos c, if_pos c]
  · rw [if_neg c, if_neg c]
    by_cases d : 0 ≤ r
    · obtain ⟨j, hj, e1, e2⟩ := r_in (r_ge d) (fun q => c (Or.inr q))
      rw [e2, h.2.1 j hj, h.2.2]
    · rw [if_neg (fun q => d q.1), if_neg (fun q => d q.1)]
theorem aTb_eq {a b : RS} (h : eqR a b) {r : Int32} (hr : ¬ 3 < r) : aTb a r = aTb b r := by
  unfold aTb
  by_cases d : r < 0
  · rw [if_pos d, if_pos d]
  · obtain ⟨j, hj, e1, e2⟩ := r_in d hr
    rw [if_neg d, if_neg d, e2, h.2.1 j hj]
theorem aTb_lt (a : RS) (r : Int32) : aTb a r < 4 := by
  unfold aTb
  split <;> omega
theorem aSt_0 {a : RS} {r : Int32} (h : aSt a r = 0) : ¬ r < -1 ∧ ¬ 3 < r := by
  unfold aSt at h
  by_cases c : r < -1 ∨ 3 < r
  · rw [if_pos c] at h; exact absurd h (by decide)
  · exact ⟨fun q => c (Or.inl q), fun q => c (Or.inr q)⟩
theorem aTs_eq {a b : RS} (h : eqR a b) {r : Int32} (hr : ¬ 3 < r) : eqT (tsel a (aTb a r)) (tsel b (aTb b r)) := by
  rw [← aTb_eq h hr]
  exact h.1 _ (aTb_lt a r)
theorem tAb_eq {X Y : TB} (h : eqT X Y) (k : Int32) : tAb X k = tAb Y k := by
  have e := eqT_pl h k
  unfold tAb
  by_cases c : tHas X k
  · rw [if_pos c, if_pos (eqT_has1 h c), e]
  · rw [if_neg c, if_neg (fun q => c ((eqT_has h k).mpr q)), e]
theorem aGet_eq {a b : RS} (h : eqR a b) (r k : Int32) : aGet a r k = aGet b r k := by
  have e := aSt_eq h r
  unfold aGet
  by_cases c : aSt a r = 0
  · have g := aTs_eq h (aSt_0 c).2
    have c' : aSt b r = 0 := by rw [← e]; exact c
    rw [if_pos c, if_pos c']
    by_cases d : tHas (tsel a (aTb a r)) k
    · rw [if_pos d, if_pos (eqT_has1 g d), ← eqT_pl g k, g.2.2.1 _ d.1]
    · rw [if_neg d, if_neg (fun q => d ((eqT_has g k).mpr q))]
  · have c' : ¬ aSt b r = 0 := by rw [← e]; exact c
    rw [if_neg c, if_neg c', e]
theorem aNext_eq {a b : RS} (h : eqR a b) (r k : Int32) : aNext a r k = aNext b r k := by
  have e := aSt_eq h r
  unfold aNext
  by_cases c : aSt a r = 0
  · have g := aTs_eq h (aSt_0 c).2
    have c' : aSt b r = 0 := by rw [← e]; exact c
    rw [if_pos c, if_pos c', ← tAb_eq g k, ← g.1]
    by_cases d : tAb (tsel a (aTb a r)) k < (tsel a (aTb a r)).1
    · rw [if_pos d, if_pos d, g.2.1 _ d]
    · rw [if_neg d, if_neg d]
  · have c' : ¬ aSt b r = 0 := by rw [← e]; exact c
    rw [if_neg c, if_neg c', e]
theorem aSize_eq {a b : RS} (h : eqR a b) (r k : Int32) : aSize a r k = aSize b r k := by
  have e := aSt_eq h r
  unfold aSize
  by_cases c : aSt a r = 0
  · have g := aTs_eq h (aSt_0 c).2
    have c' : aSt b r = 0 := by rw [← e]; exact c
    rw [if_pos c, if_pos c']
    by_cases d : tHas (tsel a (aTb a r)) k
    · rw [if_pos d, if_pos (eqT_has1 g d), ← eqT_pl g k, g.2.2.2 _ d.1]
    · rw [if_neg d, if_neg (fun q => d ((eqT_has g k).mpr q))]
  · have c' : ¬ aSt b r = 0 := by rw [← e]; exact c
    rw [if_neg c, if_neg c', e]
theorem aCount_eq {a b : RS} (h : eqR a b) (r : Int32) : aCount a r = aCount b r := by
  have e := aSt_eq h r
  unfold aCount
  by_cases c : aSt a r = 0
  · have g := aTs_eq h (aSt_0 c).2
    have c' : aSt b r = 0 := by rw [← e]; exact c
    rw [if_pos c, if_pos c', g.1]
  · have c' : ¬ aSt b r = 0 := by rw [← e]; exact c
    rw [if_neg c, if_neg c', e]
theorem aDigest_eq {a b : RS} (h : eqR a b) (r : Int32) : aDigest a r = aDigest b r := by
  have e := aSt_eq h r
  unfold aDigest
  by_cases c : aSt a r = 0
  · have g := aTs_eq h (aSt_0 c).2
    have c' : aSt b r = 0 := by rw [← e]; exact c
    rw [if_pos c, if_pos c', tDg_eq g]
  · have c' : ¬ aSt b r = 0 := by rw [← e]; exact c
    rw [if_neg c, if_neg c', e]
theorem aPut_ok {L : Nat} {a : RS} (h : okR L a) (k v z : Int32) : okR L (aPut a k v z).2 := by
  unfold aPut
  split
  · exact h
  · exact tset_ok (by decide) h (tEnter_ok (h.1 3 (by decide)) _ _ _)
theorem aSome_ok {L : Nat} {a : RS} (h : okR L a) (fr st many v : Int32) : okR L (aSome a fr st many v).2 := by
  unfold aSome
  split
  · exact h
  · exact tset_ok (by decide) h (someF_ok (h.1 3 (by decide)) _ _ _ _)
theorem aRemove_ok {L : Nat} {a : RS} (h : okR L a) (k : Int32) : okR L (aRemove a k).2 := by
  unfold aRemove
  split
  · exact tset_ok (by decide) h (tDrop_ok (h.1 3 (by decide)) _)
  · exact h
theorem aCommit_ok {L : Nat} {a : RS} (h : okR L a) (cut : Int32) : okR (L + 1) (aCommit a cut).2 := by
  unfold aCommit
  split
  · exact tset_ok (rt_m3 _) (rUp_ok h) (h.1 3 (by decide))
  · exact okR_up (tset_ok (by decide) h (h.1 _ (rt_m3 _))) (Nat.le_succ L)
theorem aForget_ok {L : Nat} {a : RS} (h : okR L a) : okR L (aForget a).2 := tset_ok (by decide) h (h.1 _ (rt_m3 _))
theorem aOpen_ok {L : Nat} {a : RS} (h : okR L a) (r : Int32) : okR L (aOpen a r).2 := by
  unfold aOpen
  split
  · exact h
  · refine ⟨fun t ht => ?_, fun j hj => ?_, h.2.2⟩
    · have e := h.1 t ht
      rcases (show t = 0 ∨ t = 1 ∨ t = 2 ∨ t = 3 by omega) with h1 | h1 | h1 | h1 <;> subst h1 <;> exact e
    · show va_up (rRd a) r.toNatClampNeg (rL a) j ≤ rL a
      unfold va_up
      split
      · exact Nat.le_refl _
      · exact h.2.1 j hj
-- the halves of a binary search
theorem bs_lo {n m : Nat} {K : Nat → Int32} {k : Int32} (hs : sr n K) (hm : m < n) (h : ¬ k ≤ K m) : ∀ j, j < m + 1 → K j < k := by
  intro j hj
  rcases Nat.lt_or_ge j m with q | q
  · exact i_tr (hs j m q hm) (i_lt h)
  · have e : j = m := by omega
    subst e
    exact i_lt h
theorem bs_hi {n m : Nat} {K : Nat → Int32} {k : Int32} (hs : sr n K) (h : k ≤ K m) : ∀ j, m ≤ j → j < n → ¬ K j < k := by
  intro j hj hn
  rcases Nat.eq_or_lt_of_le hj with q | q
  · rw [← q]; exact i_nl h
  · exact fun z => i_nl h (i_tr (hs m j q hn) z)
-- a reader's state, a reader's table
theorem r43 {r : Int32} : r < nI 4 ↔ ¬ 3 < r := by
  have e4 : (nI 4).toInt = 4 := by decide
  have e3 : (3 : Int32).toInt = 3 := by decide
  rw [Int32.lt_iff_toInt_lt, Int32.lt_iff_toInt_lt, e4, e3]
  omega
theorem r33 {r : Int32} : r ≤ nI 3 ↔ ¬ 3 < r := by
  have e4 : (nI 3).toInt = 3 := by decide
  have e3 : (3 : Int32).toInt = 3 := by decide
  rw [Int32.le_iff_toInt_le, Int32.lt_iff_toInt_lt, e4, e3]
  omega
theorem aSt_out {a : RS} {r : Int32} (h : r < -1 ∨ 3 < r) : aSt a r = -1 := if_pos h
theorem aSt_neg {a : RS} {r : Int32} (h : ¬ r < -1) (h2 : r < 0) : aSt a r = 0 := by
  have h3 : ¬ 3 < r := fun q => i_as h2 (i_tr (show (0 : Int32) < 3 by decide) q)
  unfold aSt
  rw [if_neg (fun q => q.elim h h3), if_neg (fun q => i_nl q.1 h2)]
theorem nj_in {j : Nat} (hj : j < 4) : ¬ (nI j < -1 ∨ 3 < nI j) := by
  rcases (show j = 0 ∨ j = 1 ∨ j = 2 ∨ j = 3 by omega) with h | h | h | h <;> subst h <;> decide
theorem aSt_gone {a : RS} {j : Nat} (hj : j < 4) (h : rRd a j + 3 ≤ rL a) : aSt a (nI j) = -4 := by
  unfold aSt
  rw [if_neg (nj_in hj), if_pos ⟨nI_pos' (by omega), by rw [nI_clamp (by omega)]; exact h⟩]
theorem aSt_ok {a : RS} {j : Nat} (hj : j < 4) (h : ¬ rRd a j + 3 ≤ rL a) : aSt a (nI j) = 0 := by
  unfold aSt
  rw [if_neg (nj_in hj), if_neg (fun q => h (by have := q.2; rw [nI_clamp (by omega)] at this; exact this))]
theorem aTb_j {a : RS} {j : Nat} (hj : j < 4) : aTb a (nI j) = rRd a j % 3 := by
  unfold aTb
  rw [if_neg (nI_pos (by omega)), nI_clamp (by omega)]
theorem aTb_n {a : RS} {r : Int32} (h : r < 0) : aTb a r = 3 := if_pos h
theorem aSt_c {a : RS} {r : Int32} (h : ¬ aSt a r = 0) : aSt a r = -1 ∨ aSt a r = -4 := by
  unfold aSt at h ⊢
  by_cases c : r < -1 ∨ 3 < r
  · rw [if_pos c]; exact Or.inl rfl
  · rw [if_neg c] at h ⊢
    by_cases d : 0 ≤ r ∧ rRd a r.toNatClampNeg + 3 ≤ rL a
    · rw [if_pos d]; exact Or.inr rfl
    · rw [if_neg d] at h; exact absurd rfl h
theorem zsz_in (v : Int32) (i : Nat) : ¬ zsz v i < 0 ∧ ¬ nI 300 < zsz v i := by
  unfold zsz
  split
  · decide
  · obtain ⟨j, hj, e⟩ := pk_andE (v + nI (7 * i)) (m := nI 127) 7 (by decide)
    rw [e]
    exact ⟨nI_pos (by omega), nI_nlt (by omega) (by omega)⟩
theorem many_in {x : Int32} (h1 : ¬ x < 1) (h2 : ¬ 60 < x) : ∃ j : Nat, 1 ≤ j ∧ j ≤ 60 ∧ x = nI j ∧ x.toNatClampNeg = j := by
  have h0 : ¬ x < 0 := fun q => h1 (i_tr q (by decide))
  obtain ⟨j, hj, e⟩ := nI_of2 (x := x) (M := 60) (n := 60) (by decide) h0 (i_le h2)
  refine ⟨j, ?_, hj, e, by rw [e]; exact nI_clamp (by omega)⟩
  rcases Nat.eq_zero_or_pos j with q | q
  · subst q; rw [e] at h1; exact absurd (by decide) h1
  · exact q
theorem rd_up {f : Nat → Nat} {j x : Nat} : upd (fun j => nI (f j)) j (nI x) = fun i => nI (va_up f j x i) := by
  funext i
  unfold upd va_up
  split <;> rfl
theorem nI_xor (a b : Nat) : nI a ^^^ nI b = nI (a ^^^ b) := by
  apply Int32.toBitVec_inj.1
  show BitVec.ofNat 32 a ^^^ BitVec.ofNat 32 b = BitVec.ofNat 32 (a ^^^ b)
  apply BitVec.eq_of_getLsbD_eq
  intro i hi
  simp [hi]
theorem fm_pos {n : Nat} (h : n < 1000000) : 0 ≤ nI n ^^^ nI 3 := by
  rw [nI_xor]
  have h1 : n ^^^ 3 < 2 ^ 20 := Nat.xor_lt_two_pow (by omega) (by decide)
  exact nI_pos' (by omega)
theorem tAb_le (T : TB) (k : Int32) : tAb T k ≤ T.1 + 1 := by
  have h := pl_le T.1 T.2.1 k
  unfold tAb
  split
  · show pl T.1 T.2.1 k + 1 ≤ T.1 + 1
    omega
  · show pl T.1 T.2.1 k ≤ T.1 + 1
    omega
/-- a step of some, seen through put -/
theorem some_st {a b b' : RS} {fr st v r : Int32} {i : Nat} (hq : eqR b (tset a 3 (someF (tsel a 3) fr st v i).2)) (hr : r = (aPut b (fr + nI i * st) (v + nI i) (zsz v i)).1) (hb : eqR b' (aPut b (fr + nI i * st) (v + nI i) (zsz v i)).2) :
    eqR b' (tset a 3 (someF (tsel a 3) fr st v (i + 1)).2) ∧ (r = 1 → (someF (tsel a 3) fr st v (i + 1)).1 = (someF (tsel a 3) fr st v i).1 + 1) ∧ (¬ r = 1 → (someF (tsel a 3) fr st v (i + 1)).1 = (someF (tsel a 3) fr st v i).1) := by
  have hz := zsz_in v i
  have e := hq.1 3 (by decide)
  rw [tset_same a _ (by decide)] at e
  have hp : aPut b (fr + nI i * st) (v + nI i) (zsz v i) = ((tEnter (tsel b 3) (fr + nI i * st) (v + nI i) (zsz v i)).1, tset b 3 (tEnter (tsel b 3) (fr + nI i * st) (v + nI i) (zsz v i)).2) := if_neg (fun q => q.elim hz.1 hz.2)
  obtain ⟨t1, t2⟩ := tEnter_eq e (fr + nI i * st) (v + nI i) (zsz v i)
  rw [hp] at hr hb
  have hr : r = (tEnter (tsel b 3) (fr + nI i * st) (v + nI i) (zsz v i)).1 := hr
  rw [t1] at hr
  refine ⟨eqR_tr hb ?_, fun h => if_pos (by rw [← hr]; exact h), fun h => if_neg (by rw [← hr]; exact h)⟩
  refine ⟨fun t ht => ?_, fun j hj => ?_, ?_⟩
  · by_cases c : t = 3
    · subst c
      rw [tset_same b _ (by decide), tset_same a _ (by decide)]
      exact t2
    · rw [tset_ne b _ (by decide) ht c, tset_ne a _ (by decide) ht c]
      have h9 := hq.1 t ht
      rw [tset_ne a _ (by decide) ht c] at h9
      exact h9
  · rw [tset_rd, tset_rd]
    have h9 := hq.2.1 j hj
    rw [tset_rd] at h9
    exact h9
  · rw [tset_L, tset_L]
    have h9 := hq.2.2
    rw [tset_L] at h9
    exact h9
end
section
-- PURE, of the reference: its flat rows, and what its loops make of them
abbrev MS : Type := (Nat → Int32) × (Nat → Int32) × (Nat → Int32) × (Nat → Nat) × (Nat → Nat) × Nat
abbrev mK (w : MS) : Nat → Int32 := w.1
abbrev mV (w : MS) : Nat → Int32 := w.2.1
abbrev mS (w : MS) : Nat → Int32 := w.2.2.1
abbrev mC (w : MS) : Nat → Nat := w.2.2.2.1
abbrev mR (w : MS) : Nat → Nat := w.2.2.2.2.1
abbrev mL (w : MS) : Nat := w.2.2.2.2.2
def vT (w : MS) (t : Nat) : TB := (mC w t, fun j => mK w (400 * t + j), fun j => mV w (400 * t + j), fun j => mS w (400 * t + j))
def view (w : MS) : RS := (vT w 0, vT w 1, vT w 2, vT w 3, mR w, mL w)
theorem view_t (w : MS) {t : Nat} (ht : t < 4) : tsel (view w) t = vT w t := by
  rcases (show t = 0 ∨ t = 1 ∨ t = 2 ∨ t = 3 by omega) with h | h | h | h <;> subst h <;> rfl
theorem vset {u w : MS} {t0 : Nat} {T' : TB} (h0 : t0 < 4) (h : ∀ t, t < 4 → t ≠ t0 → eqT (vT u t) (vT w t)) (h3 : eqT (vT u t0) T') (hr : ∀ r, r < 4 → mR u r = mR w r) (hl : mL u = mL w) : eqR (view u) (tset (view w) t0 T') := by
  refine ⟨fun t ht => ?_, fun r q => ?_, ?_⟩
  · by_cases c : t = t0
    · subst c; rw [tset_same _ _ h0, view_t u h0]; exact h3
    · rw [tset_ne _ _ h0 ht c, view_t u ht, view_t w ht]; exact h t ht c
  · rw [tset_rd]; exact hr r q
  · rw [tset_L]; exact hl
theorem vT_out {u w : MS} {t t0 : Nat} (ht4 : t < 4) (ht : t ≠ t0) (hc : mC u t = mC w t) (hle : mC w t ≤ 400) (hk : ∀ x, x < 1600 → (x < 400 * t0 ∨ 400 * t0 + 400 ≤ x) → mK u x = mK w x) (hv : ∀ x, x < 1600 → (x < 400 * t0 ∨ 400 * t0 + 400 ≤ x) → mV u x = mV w x) (hs : ∀ x, x < 1600 → (x < 400 * t0 ∨ 400 * t0 + 400 ≤ x) → mS u x = mS w x) : eqT (vT u t) (vT w t) := by
  have hj : ∀ j, j < mC u t → 400 * t + j < 1600 ∧ (400 * t + j < 400 * t0 ∨ 400 * t0 + 400 ≤ 400 * t + j) := by
    intro j hj
    rw [hc] at hj
    omega
  exact ⟨hc, fun j q => hk _ (hj j q).1 (hj j q).2, fun j q => hv _ (hj j q).1 (hj j q).2, fun j q => hs _ (hj j q).1 (hj j q).2⟩
-- put: from the last place down to the place
def shR (f f' : Nat → Int32) (c n : Nat) : Prop := (∀ j, j ≤ 1200 + c → f' j = f j) ∧ (∀ j, c < j → j ≤ n → f' (1200 + j) = f (1200 + (j - 1)))
theorem shR_0 {f : Nat → Int32} {n : Nat} : shR f f n n := ⟨fun _ _ => rfl, fun j h1 h2 => absurd h2 (by omega)⟩
theorem shR_s {f f' : Nat → Int32} {c n : Nat} (h : shR f f' (c + 1) n) : shR f (upd f' (1200 + c + 1) (f' (1200 + c))) c n := by
  refine ⟨fun j hj => ?_, fun j h1 h2 => ?_⟩
  · rw [pk_un (by omega)]; exact h.1 j (by omega)
  · by_cases e : j = c + 1
    · subst e
      rw [show 1200 + (c + 1) = 1200 + c + 1 by omega, pk_us, h.1 _ (by omega)]
      rfl
    · rw [pk_un (by omega)]; exact h.2 j (by omega) h2
theorem put_ag {f f' : Nat → Int32} {n q : Nat} {x : Int32} (h : shR f f' q n) : ag (n + 1) (fun j => upd f' (400 * 3 + q) x (400 * 3 + j)) (ins (fun j => f (400 * 3 + j)) q x) := by
  intro j hj
  show upd f' (400 * 3 + q) x (400 * 3 + j) = if j < q then f (400 * 3 + j) else if j = q then x else f (400 * 3 + (j - 1))
  by_cases c1 : j < q
  · rw [if_pos c1, pk_un (by omega)]; exact h.1 _ (by omega)
  · by_cases c2 : j = q
    · rw [if_neg c1, if_pos c2, c2, pk_us]
    · rw [if_neg c1, if_neg c2, pk_un (by omega)]
      exact h.2 j (by omega) (by omega)
theorem put_out {f f' : Nat → Int32} {n q : Nat} {x : Int32} (h : shR f f' q n) (hq : q ≤ n) (hn : n < 400) : ∀ y, y < 1600 → (y < 400 * 3 ∨ 400 * 3 + 400 ≤ y) → upd f' (400 * 3 + q) x y = f y := by
  intro y hb hy
  rw [pk_un (by omega)]
  exact h.1 y (by omega)
theorem putH_ag {f : Nat → Int32} {n q : Nat} {x : Int32} (h : f (400 * 3 + q) = x) : ag n (fun j => upd f (400 * 3 + q) x (400 * 3 + j)) (fun j => f (400 * 3 + j)) := by
  intro j hj
  show upd f (400 * 3 + q) x (400 * 3 + j) = f (400 * 3 + j)
  by_cases c : j = q
  · rw [c, pk_us, h]
  · rw [pk_un (by omega)]
theorem putU_ag {f : Nat → Int32} {n q : Nat} {x : Int32} : ag n (fun j => upd f (400 * 3 + q) x (400 * 3 + j)) (upd (fun j => f (400 * 3 + j)) q x) := by
  intro j hj
  show upd f (400 * 3 + q) x (400 * 3 + j) = if j = q then x else f (400 * 3 + j)
  by_cases c : j = q
  · rw [if_pos c, c, pk_us]
  · rw [if_neg c, pk_un (by omega)]
theorem putU_out {f : Nat → Int32} {q : Nat} {x : Int32} (hq : q < 400) : ∀ y, y < 1600 → (y < 400 * 3 ∨ 400 * 3 + 400 ≤ y) → upd f (400 * 3 + q) x y = f y := by
  intro y hb hy
  rw [pk_un (by omega)]
-- the whole of put, of remove, on the reference's rows
theorem put_viewN {w : MS} {k' v' s' : Nat → Int32} {k v z : Int32} (hle : ∀ t, t < 4 → mC w t ≤ 400) (hh : ¬ tHas (vT w 3) k) (hn : ¬ 400 ≤ mC w 3) (hk : shR (mK w) k' (tPl (vT w 3) k) (mC w 3)) (hv : shR (mV w) v' (tPl (vT w 3) k) (mC w 3)) (hs : shR (mS w) s' (tPl (vT w 3) k) (mC w 3)) :
    (tEnter (vT w 3) k v z).1 = 1 ∧ eqR (view (upd k' (400 * 3 + tPl (vT w 3) k) k, upd v' (400 * 3 + tPl (vT w 3) k) v, upd s' (400 * 3 + tPl (vT w 3) k) z, va_up (mC w) 3 (mC w 3 + 1), mR w, mL w)) (tset (view w) 3 (tEnter (vT w 3) k v z).2) := by
  have hq : tPl (vT w 3) k ≤ mC w 3 := pl_le _ _ _
  rw [tEnter_n v z hh hn]
  refine ⟨rfl, vset (by decide) (fun t ht hne => ?_) ?_ (fun _ _ => rfl) rfl⟩
  · exact vT_out ht hne (va_up_ne _ _ hne) (hle t ht) (put_out hk hq (by omega)) (put_out hv hq (by omega)) (put_out hs hq (by omega))
  · have e : (vT (upd k' (400 * 3 + tPl (vT w 3) k) k, upd v' (400 * 3 + tPl (vT w 3) k) v, upd s' (400 * 3 + tPl (vT w 3) k) z, va_up (mC w) 3 (mC w 3 + 1), mR w, mL w) 3).1 = mC w 3 + 1 := va_up_self (mC w) 3 (mC w 3 + 1)
    exact ⟨e, by rw [e]; exact put_ag hk, by rw [e]; exact put_ag hv, by rw [e]; exact put_ag hs⟩
theorem put_viewH {w : MS} {k v z : Int32} (hle : ∀ t, t < 4 → mC w t ≤ 400) (hh : tHas (vT w 3) k) :
    (tEnter (vT w 3) k v z).1 = 0 ∧ eqR (view (upd (mK w) (400 * 3 + tPl (vT w 3) k) k, upd (mV w) (400 * 3 + tPl (vT w 3) k) v, upd (mS w) (400 * 3 + tPl (vT w 3) k) z, mC w, mR w, mL w)) (tset (view w) 3 (tEnter (vT w 3) k v z).2) := by
  have hq : tPl (vT w 3) k < mC w 3 := hh.1
  have hl : mC w 3 ≤ 400 := hle 3 (by decide)
  rw [tEnter_h v z hh]
  refine ⟨rfl, vset (by decide) (fun t ht hne => ?_) ?_ (fun _ _ => rfl) rfl⟩
  · exact vT_out ht hne rfl (hle t ht) (putU_out (by omega)) (putU_out (by omega)) (putU_out (by omega))
  · exact ⟨rfl, putH_ag hh.2, putU_ag, putU_ag⟩
-- remove: from the place up
def slR (f f' : Nat → Int32) (q c : Nat) : Prop := (∀ j, j < 1200 + q → f' j = f j) ∧ (∀ j, q ≤ j → j < c → f' (1200 + j) = f (1200 + j + 1)) ∧ (∀ j, 1200 + c ≤ j → f' j = f j)
theorem slR_0 {f : Nat → Int32} {q : Nat} : slR f f q q := ⟨fun _ _ => rfl, fun j h1 h2 => absurd h2 (by omega), fun _ _ => rfl⟩
theorem slR_s {f f' : Nat → Int32} {q c : Nat} (h : slR f f' q c) (hq : q ≤ c) : slR f (upd f' (1200 + c) (f' (1200 + c + 1))) q (c + 1) := by
  refine ⟨fun j hj => ?_, fun j h1 h2 => ?_, fun j hj => ?_⟩
  · rw [pk_un (by omega)]; exact h.1 j hj
  · by_cases e : j = c
    · rw [e, pk_us]; exact h.2.2 _ (by omega)
    · rw [pk_un (by omega)]; exact h.2.1 j h1 (by omega)
  · rw [pk_un (by omega)]; exact h.2.2 j (by omega)
theorem rem_ag {f f' : Nat → Int32} {q n : Nat} (h : slR f f' q (n - 1)) : ag (n - 1) (fun j => f' (400 * 3 + j)) (del (fun j => f (400 * 3 + j)) q) := by
  intro j hj
  show f' (400 * 3 + j) = if j < q then f (400 * 3 + j) else f (400 * 3 + (j + 1))
  by_cases c1 : j < q
  · rw [if_pos c1]; exact h.1 _ (by omega)
  · rw [if_neg c1]; exact h.2.1 j (by omega) hj
theorem rem_out {f f' : Nat → Int32} {q c : Nat} (h : slR f f' q c) (hc : c ≤ 400) : ∀ y, y < 1600 → (y < 400 * 3 ∨ 400 * 3 + 400 ≤ y) → f' y = f y := by
  intro y _ hy
  rcases hy with hy | hy
  · exact h.1 y (by omega)
  · exact h.2.2 y (by omega)
theorem rem_view {w : MS} {k' v' s' : Nat → Int32} {k : Int32} (hle : ∀ t, t < 4 → mC w t ≤ 400) (hh : tHas (vT w 3) k) (hk : slR (mK w) k' (tPl (vT w 3) k) (mC w 3 - 1)) (hv : slR (mV w) v' (tPl (vT w 3) k) (mC w 3 - 1)) (hs : slR (mS w) s' (tPl (vT w 3) k) (mC w 3 - 1)) :
    eqR (view (k', v', s', va_up (mC w) 3 (mC w 3 - 1), mR w, mL w)) (tset (view w) 3 (tDrop (vT w 3) k)) := by
  have hl : mC w 3 ≤ 400 := hle 3 (by decide)
  rw [tDrop_h hh]
  refine vset (by decide) (fun t ht hne => ?_) ?_ (fun _ _ => rfl) rfl
  · exact vT_out ht hne (va_up_ne _ _ hne) (hle t ht) (rem_out hk (by omega)) (rem_out hv (by omega)) (rem_out hs (by omega))
  · have e : (vT (k', v', s', va_up (mC w) 3 (mC w 3 - 1), mR w, mL w) 3).1 = mC w 3 - 1 := va_up_self (mC w) 3 (mC w 3 - 1)
    exact ⟨e, by rw [e]; exact rem_ag hk, by rw [e]; exact rem_ag hv, by rw [e]; exact rem_ag hs⟩
-- copy
def cpR (f f' : Nat → Int32) (fr to c : Nat) : Prop := (∀ j, j < c → f' (400 * to + j) = f (400 * fr + j)) ∧ (∀ x, (x < 400 * to ∨ 400 * to + 400 ≤ x) → f' x = f x)
theorem cpR_0 {f : Nat → Int32} {fr to : Nat} : cpR f f fr to 0 := ⟨fun j h => absurd h (Nat.not_lt_zero _), fun _ _ => rfl⟩
theorem cpR_s {f f' : Nat → Int32} {fr to c : Nat} (h : cpR f f' fr to c) (hne : fr ≠ to) (hc : c < 400) : cpR f (upd f' (400 * to + c) (f' (400 * fr + c))) fr to (c + 1) := by
  refine ⟨fun j hj => ?_, fun x hx => ?_⟩
  · by_cases e : j = c
    · rw [e, pk_us]; exact h.2 _ (by omega)
    · rw [pk_un (by omega)]; exact h.1 j (by omega)
  · rw [pk_un (by omega)]; exact h.2 x hx
theorem cp_view {w : MS} {k' v' s' : Nat → Int32} {fr to : Nat} (hto : to < 4) (hfr : fr < 4) (hle : ∀ t, t < 4 → mC w t ≤ 400) (hk : cpR (mK w) k' fr to (mC w fr)) (hv : cpR (mV w) v' fr to (mC w fr)) (hs : cpR (mS w) s' fr to (mC w fr)) : eqR (view (k', v', s', va_up (mC w) to (mC w fr), mR w, mL w)) (tset (view w) to (tsel (view w) fr)) := by
  rw [view_t w hfr]
  refine vset hto (fun t ht hne => ?_) ?_ (fun _ _ => rfl) rfl
  · exact vT_out ht hne (va_up_ne _ _ hne) (hle t ht) (fun x _ h => hk.2 x h) (fun x _ h => hv.2 x h) (fun x _ h => hs.2 x h)
  · have e : va_up (mC w) to (mC w fr) to = mC w fr := va_up_self _ _ _
    refine ⟨e, fun j hj => ?_, fun j hj => ?_, fun j hj => ?_⟩
    · exact hk.1 j (by rw [← e]; exact hj)
    · exact hv.1 j (by rw [← e]; exact hj)
    · exact hs.1 j (by rw [← e]; exact hj)
-- numbers of the reference's table
theorem mT_s (w : MS) (r : Int32) (h : aSt (view w) r = 0) : tsel (view w) (aTb (view w) r) = vT w (aTb (view w) r) := view_t w (aTb_lt _ _)
def mTb (a : RS) (r : Int32) : Int32 := if aSt a r = 0 then nI (aTb a r) else aSt a r
theorem mTb_n {a : RS} {r v : Int32} (hv : ¬ v = 0) (h : aSt a r = v) : mTb a r = v := by
  unfold mTb
  rw [h, if_neg hv]
theorem mTb_z {a : RS} {r : Int32} {t : Nat} (h : aSt a r = 0) (h2 : aTb a r = t) : mTb a r = nI t := by
  unfold mTb
  rw [if_pos h, h2]
theorem mr_le {R L : Nat} (hL : L < 2 ^ 30) (hR : R < 2 ^ 30) : nI L - nI 2 ≤ nI R ↔ ¬ R + 3 ≤ L := by
  rw [Int32.le_iff_toInt_le, pk_sub_toInt hL (by decide), nI_toInt (by omega)]
  omega
theorem mr_lt {R L : Nat} (h : ¬ nI L - nI 2 ≤ nI R) (hL : L < 2 ^ 30) (hR : R < 2 ^ 30) : R + 3 ≤ L := by
  rw [mr_le hL hR] at h
  omega
theorem mr_ge {R L : Nat} (h : nI L - nI 2 ≤ nI R) (hL : L < 2 ^ 30) (hR : R < 2 ^ 30) : ¬ R + 3 ≤ L := (mr_le hL hR).mp h
end
section
-- OWN ROWS over the kit: places as numbers, calls that only read, calls that write their world's cells
abbrev zTY (cI cT : ClassId) : List (ClassId × FieldType) := [(cI, .int), (cT, .object "RevisionTree$Table")]
def zPW (D : va_G) (cl : List vw_C) (cI cT : ClassId) (ws : va_W) (sz : Nat) (U : State) : Prop := U.heap.size = sz ∧ va_P D cl ws U.heap ∧ va_K D cl (zTY cI cT) U ∧ va_D (fun _ => True) ws
theorem zblind {D : va_G} {cl : List vw_C} {cI cT : ClassId} {ws : va_W} {sz : Nat} {av : List Value} : FrameBlind (va_Pc av (zPW D cl cI cT ws sz)) := fun a U g mk q => by
  obtain ⟨q0, q1, qP, qK, qD⟩ := q
  exact ⟨q0, q1, qP, va_K.moved (u := U) (U := U.calling g mk a) (Vm.Alike.refl U.vm) qK, qD⟩
theorem zinc (a : Nat) : nI a + Int32.ofInt 1 = nI (a + 1) := nI_1 a
theorem zdec (a : Nat) : nI (a + 1) + Int32.ofInt (-1) = nI a := pk_m1 a
-- cells replaced by place
def rp (ws : va_W) : List Nat → va_W → va_W
  | i :: is, e :: es => rp (ws.set i e) is es
  | _, _ => ws
theorem rp_spec : ∀ (is : List Nat) (es ws : va_W) (k : Nat) (q : Nat × va_E), (rp ws is es)[k]? = some q → (∃ j : Nat, es[j]? = some q) ∨ (ws[k]? = some q ∧ (es.length = is.length → k ∉ is))
  | [], es, ws, k, q, h => by
    have e : rp ws [] es = ws := by cases es <;> rfl
    rw [e] at h
    exact Or.inr ⟨h, fun _ => List.not_mem_nil⟩
  | i :: is, [], ws, k, q, h => Or.inr ⟨h, fun hl => by simp at hl⟩
  | i :: is, e :: es, ws, k, q, h => by
    rcases rp_spec is es (ws.set i e) k q h with ⟨j, hj⟩ | ⟨h1, h2⟩
    · exact Or.inl ⟨j + 1, hj⟩
    · by_cases hk : k = i
      · subst hk
        have hl : k < (ws.set k e).length := (List.getElem?_eq_some_iff.mp h1).1
        rw [List.length_set] at hl
        rw [List.getElem?_set_self hl] at h1
        exact Or.inl ⟨0, h1⟩
      · rw [List.getElem?_set_ne (Ne.symm hk)] at h1
        refine Or.inr ⟨h1, fun hl => ?_⟩
        have hl2 : es.length = is.length := by simpa using hl
        intro hm
        rcases List.mem_cons.mp hm with hm | hm
        · exact hk hm
        · exact h2 hl2 hm
theorem zjn {A : Nat → Prop} {D : va_G} {cl : List vw_C} {ws wc w1 : va_W} {H H1 : Heap} (hP : va_P D cl ws H) (hD : va_D A ws) (isC : List Nat) (hC : isC.map (fun i => ws[i]?) = wc.map some) (hk : ∀ q : Nat, q < H.size → ¬ va_A wc H.size q → H1[q]? = H[q]?) (hP1 : va_P D cl w1 H1) (hl : w1.length = isC.length) : va_P D cl (rp ws isC w1) H1 := by
  intro k q hq
  rcases rp_spec isC w1 ws k q hq with ⟨j, hj⟩ | ⟨h1, h2⟩
  · exact hP1 j q hj
  · have h3 := h2 hl
    refine (hP k q h1).kept (hk q.1 (hP k q h1).lt ?_)
    rintro (⟨j, e, he⟩ | h)
    · have h4 : (isC.map (fun i => ws[i]?))[j]? = some (some (q.1, e)) := by rw [hC, List.getElem?_map, he]; rfl
      rw [List.getElem?_map] at h4
      cases hi : isC[j]? with
      | none => rw [hi] at h4; cases h4
      | some i =>
        rw [hi] at h4
        have h5 : ws[i]? = some (q.1, e) := Option.some.inj h4
        have h6 := hD.1 k i q (q.1, e) h1 h5 rfl
        subst h6
        exact h3 (List.mem_of_getElem? hi)
    · have h9 := (hP k q h1).lt
      omega
theorem zDs {A : Nat → Prop} {ws ws' : va_W} (hD : va_D A ws) (h : ws'.map Prod.fst = ws.map Prod.fst) : va_D A ws' := by
  have key : ∀ (k : Nat) (q : Nat × va_E), ws'[k]? = some q → ∃ q0, ws[k]? = some q0 ∧ q0.1 = q.1 := by
    intro k q hk
    have h1 : (ws'.map Prod.fst)[k]? = some q.1 := by rw [List.getElem?_map, hk]; rfl
    rw [h, List.getElem?_map] at h1
    cases hw : ws[k]? with
    | none => rw [hw] at h1; cases h1
    | some q0 => rw [hw] at h1; exact ⟨q0, rfl, Option.some.inj h1⟩
  refine ⟨fun i j x y hi hj hxy => ?_, fun k q hk => ?_⟩
  · obtain ⟨x0, h1, h2⟩ := key i x hi
    obtain ⟨y0, h3, h4⟩ := key j y hj
    exact hD.1 i j x0 y0 h1 h3 (h2.trans (hxy.trans h4.symm))
  · obtain ⟨q0, h1, h2⟩ := key k q hk
    rw [← h2]
    exact hD.2 k q0 h1
section ZW
variable {p : Program} {l : Launch} {e : Env} {R : Room} {s : State} {m : MethodId} {args : Array Value} {below : List Frame} {meth : Method} {c : Code} {H : Heap} {locs : List Loc} {cells slots : Nat} {Q : State → Prop}
variable {cc : ByteArray} {pc : Nat} {ls : Array Slot} {rest st0 : List Value} {D : va_G} {cl : List vw_C} {A : Nat → Prop} {a : Nat} {tys : List (ClassId × FieldType)} {ws : va_W} {H0 : Heap} {cI cT : ClassId}
theorem zt {x y : Int32} (h : x = y) (k : W p l e R s m args below meth c H locs cells slots Q (F0 m pc ls (.int y :: rest))) : W p l e R s m args below meth c H locs cells slots Q (F0 m pc ls (.int x :: rest)) := h ▸ k
theorem zt2 {x y : Int32} {v : Value} (h : x = y) (k : W p l e R s m args below meth c H locs cells slots Q (F0 m pc ls (v :: .int y :: rest))) : W p l e R s m args below meth c H locs cells slots Q (F0 m pc ls (v :: .int x :: rest)) := h ▸ k
theorem ztr {x y : Value} (h : x = y) (k : W p l e R s m args below meth c H locs cells slots Q (F0 m pc ls (y :: rest))) : W p l e R s m args below meth c H locs cells slots Q (F0 m pc ls (x :: rest)) := h ▸ k
theorem zrdN (hexec : p.tables.exec = Jvm.exec) (hb : c.code = cc) (hK : va_K D cl tys s) (hP : va_P D cl ws H) (q0 t0 : Nat) {cA : ClassId} {n : Nat} {f : Nat → Int32} (ha : ws[q0]? = some (a, .inl (cA, n, .inl f))) (ht : tys[t0]? = some (cA, .int)) {j : Nat} (hj : j < n) (hn : n < 2 ^ 31) (hdg : decode cc pc = .ok (.iaload, 1))
    (kk : W p l e R s m args below meth c H locs cells slots Q (F0 m (pc + 1) ls (.int (f j) :: rest))) : W p l e R s m args below meth c H locs cells slots Q (F0 m pc ls (.int (nI j) :: .ref a :: rest)) :=
  va_iald hexec hb hK hP q0 t0 ha ht (vp_in_nI hj hn) hdg (by rw [nI_clamp (by omega)]; exact kk)
theorem zwrN (hexec : p.tables.exec = Jvm.exec) (hb : c.code = cc) (hK : va_K D cl tys s) (hP : va_P D cl ws H) (hD : va_D A ws) (hS : va_S A H0 H locs) (q0 t0 : Nat) {cA : ClassId} {n : Nat} {f : Nat → Int32} (ha : ws[q0]? = some (a, .inl (cA, n, .inl f))) (ht : tys[t0]? = some (cA, .int)) {j : Nat} {x : Int32} (hj : j < n) (hn : n < 2 ^ 31) (hdg : decode cc pc = .ok (.iastore, 1))
    (kk : ∀ (H1 : Heap) (locs1 : List Loc), va_P D cl (ws.set q0 (a, .inl (cA, n, .inl (upd f j x)))) H1 → va_D A (ws.set q0 (a, .inl (cA, n, .inl (upd f j x)))) → va_S A H0 H1 locs1 → W p l e R s m args below meth c H1 locs1 cells slots Q (F0 m (pc + 1) ls rest)) : W p l e R s m args below meth c H locs cells slots Q (F0 m pc ls (.int x :: .int (nI j) :: .ref a :: rest)) :=
  va_iast hexec hb hK hP hD hS q0 t0 ha ht (vp_in_nI hj hn) hdg (by rw [nI_clamp (by omega)]; exact kk)
theorem zge (hexec : p.tables.exec = Jvm.exec) (hb : c.code = cc) {x y : Nat} {off : Int} {tgt : Nat} (hdg : decode cc pc = .ok (.if_icmp .ge off, 3)) (ht : (pc : Int) + off = (tgt : Int)) (hx : x < 2 ^ 31) (hy : y < 2 ^ 31)
    (kt : y ≤ x → W p l e R s m args below meth c H locs cells slots Q (F0 m tgt ls rest)) (kf : x < y → W p l e R s m args below meth c H locs cells slots Q (F0 m (pc + 3) ls rest)) : W p l e R s m args below meth c H locs cells slots Q (F0 m pc ls (.int (nI y) :: .int (nI x) :: rest)) :=
  lv_icmp_ge hexec hb hdg ht (fun h => kt ((nI_leI hy hx).mp h)) (fun h => kf (Nat.lt_of_not_le fun z => h ((nI_leI hy hx).mpr z)))
theorem zlt (hexec : p.tables.exec = Jvm.exec) (hb : c.code = cc) {x y : Nat} {off : Int} {tgt : Nat} (hdg : decode cc pc = .ok (.if_icmp .lt off, 3)) (ht : (pc : Int) + off = (tgt : Int)) (hx : x < 2 ^ 31) (hy : y < 2 ^ 31)
    (kt : x < y → W p l e R s m args below meth c H locs cells slots Q (F0 m tgt ls rest)) (kf : y ≤ x → W p l e R s m args below meth c H locs cells slots Q (F0 m (pc + 3) ls rest)) : W p l e R s m args below meth c H locs cells slots Q (F0 m pc ls (.int (nI y) :: .int (nI x) :: rest)) :=
  lv_icmp_lt hexec hb hdg ht (fun h => kt ((nI_ltI hx hy).mp h)) (fun h => kf (Nat.le_of_not_lt fun z => h ((nI_ltI hx hy).mpr z)))
theorem zle (hexec : p.tables.exec = Jvm.exec) (hb : c.code = cc) {x y : Nat} {off : Int} {tgt : Nat} (hdg : decode cc pc = .ok (.if_icmp .le off, 3)) (ht : (pc : Int) + off = (tgt : Int)) (hx : x < 2 ^ 31) (hy : y < 2 ^ 31)
    (kt : x ≤ y → W p l e R s m args below meth c H locs cells slots Q (F0 m tgt ls rest)) (kf : y < x → W p l e R s m args below meth c H locs cells slots Q (F0 m (pc + 3) ls rest)) : W p l e R s m args below meth c H locs cells slots Q (F0 m pc ls (.int (nI y) :: .int (nI x) :: rest)) :=
  lv_icmp_le hexec hb hdg ht (fun h => kt ((nI_leI hx hy).mp h)) (fun h => kf (Nat.lt_of_not_le fun z => h ((nI_leI hx hy).mpr z)))
theorem zne (hexec : p.tables.exec = Jvm.exec) (hb : c.code = cc) {x y : Nat} {off : Int} {tgt : Nat} (hdg : decode cc pc = .ok (.if_icmp .ne off, 3)) (ht : (pc : Int) + off = (tgt : Int)) (hx : x < 2 ^ 31) (hy : y < 2 ^ 31)
    (kt : x ≠ y → W p l e R s m args below meth c H locs cells slots Q (F0 m tgt ls rest)) (kf : x = y → W p l e R s m args below meth c H locs cells slots Q (F0 m (pc + 3) ls rest)) : W p l e R s m args below meth c H locs cells slots Q (F0 m pc ls (.int (nI y) :: .int (nI x) :: rest)) :=
  lv_icmp_ne hexec hb hdg ht (fun h => kt (fun z => h (by rw [z]))) (fun h => kf ((nI_eq hx hy).mp h))
theorem zifeq (hexec : p.tables.exec = Jvm.exec) (hb : c.code = cc) {P : Prop} [Decidable P] {off : Int} {tgt : Nat} (hdg : decode cc pc = .ok (.ifCond .eq off, 3)) (ht : (pc : Int) + off = (tgt : Int))
    (kt : ¬ P → W p l e R s m args below meth c H locs cells slots Q (F0 m tgt ls rest)) (kf : P → W p l e R s m args below meth c H locs cells slots Q (F0 m (pc + 3) ls rest)) : W p l e R s m args below meth c H locs cells slots Q (F0 m pc ls (.int (bz P) :: rest)) :=
  lv_if_eq hexec hb hdg ht (fun h => kt (fun hp => by rw [bz_t hp] at h; exact absurd h (by decide))) (fun h => kf (by
    by_cases hp : P
    · exact hp
    · exact absurd (bz_f hp) h))
theorem zifne (hexec : p.tables.exec = Jvm.exec) (hb : c.code = cc) {P : Prop} [Decidable P] {off : Int} {tgt : Nat} (hdg : decode cc pc = .ok (.ifCond .ne off, 3)) (ht : (pc : Int) + off = (tgt : Int))
    (kt : P → W p l e R s m args below meth c H locs cells slots Q (F0 m tgt ls rest)) (kf : ¬ P → W p l e R s m args below meth c H locs cells slots Q (F0 m (pc + 3) ls rest)) : W p l e R s m args below meth c H locs cells slots Q (F0 m pc ls (.int (bz P) :: rest)) :=
  lv_if_ne hexec hb hdg ht (fun h => kt (by
    by_cases hp : P
    · exact hp
    · exact absurd (bz_f hp) h)) (fun h => kf (fun hp => by rw [bz_t hp] at h; exact absurd h (by decide)))
/-- a loop at a program counter, its operand stack empty: a state x of any kind, a measure that falls -/
theorem zloop {σ : Type} (I : σ → Heap → List Loc → Array Slot → Prop) (μ : σ → Nat)
    (step : ∀ (x : σ) (H : Heap) (locs : List Loc) (ls : Array Slot), I x H locs ls → (∀ (y : σ) (H : Heap) (locs : List Loc) (ls : Array Slot), I y H locs ls → μ y < μ x → W p l e R s m args below meth c H locs cells slots Q (F0 m pc ls [])) → W p l e R s m args below meth c H locs cells slots Q (F0 m pc ls []))
    (x : σ) (h : I x H locs ls) : W p l e R s m args below meth c H locs cells slots Q (F0 m pc ls []) := by
  suffices hh : ∀ (n : Nat) (x : σ) (H : Heap) (locs : List Loc) (ls : Array Slot), I x H locs ls → μ x < n → W p l e R s m args below meth c H locs cells slots Q (F0 m pc ls []) from hh (μ x + 1) x H locs ls h (Nat.lt_succ_self _)
  intro n
  induction n with
  | zero => intro x H locs ls _ h9; exact absurd h9 (Nat.not_lt_zero _)
  | succ n ih => intro x H locs ls h8 hn; exact step x H locs ls h8 (fun y H locs ls hy hl => ih y H locs ls hy (by omega))
theorem zpreV {wc : va_W} {C : String} {T : u_T} {N ci b : Nat} {fs : List Value} {As : List Value} (hK : va_K D cl (zTY cI cT) s) (hPc : va_P D cl wc H) (hDc : va_D A wc) (hc : cl[ci]? = some (C, T, N)) (q0 : Nat) (he : wc[q0]? = some (b, .inr (ci, fs))) : PreV s H C b (va_Pc (.ref b :: As) (zPW D cl cI cT wc H.size)) As :=
  ⟨zblind, va_recv hK hPc hc he, fun U hU hW => ⟨rfl, by rw [hU], by rw [hU]; exact hPc, va_K.moved hW.alike hK, hDc.weaken (fun _ _ _ _ => trivial)⟩⟩
theorem zpreS {wc : va_W} {As : List Value} (hK : va_K D cl (zTY cI cT) s) (hPc : va_P D cl wc H) (hDc : va_D A wc) : PreS s H (va_Pc As (zPW D cl cI cT wc H.size)) As :=
  ⟨zblind, fun U hU hW => ⟨rfl, by rw [hU], by rw [hU]; exact hPc, va_K.moved hW.alike hK, hDc.weaken (fun _ _ _ _ => trivial)⟩⟩
abbrev zQi (sz : Nat) (v : Int32) : Array Value → State → Outcome → State → Prop := va_Qi (fun (r : Int32) (_ : Unit) => r = v) (fun _ _ => True) (fun q : Nat => sz ≤ q)
abbrev zQl (sz : Nat) (v : Int64) : Array Value → State → Outcome → State → Prop := va_Ql (fun (r : Int64) (_ : Unit) => r = v) (fun _ _ => True) (fun q : Nat => sz ≤ q)
abbrev zQr (sz : Nat) (v : Nat) : Array Value → State → Outcome → State → Prop := va_Qr (fun (_ : Unit) => True) (fun _ r _ => r = v) (fun q : Nat => sz ≤ q)
abbrev zfr (sz : Nat) : Nat → Prop := fun q : Nat => sz ≤ q
theorem zroi {v : Int32} {av : Array Value} (hr : va_Run p l e R s m args below meth c H locs cells slots 0 0 (F0 m pc ls st0) rest (zQi H.size v av) (zfr H.size)) (hP : va_P D cl ws H) (hS : va_S A H0 H locs) (hA : ∀ q : Nat, H0.size ≤ q → A q)
    (kk : ∀ (H1 : Heap) (locs1 : List Loc), va_P D cl ws H1 → va_S A H0 H1 locs1 → W p l e R s m args below meth c H1 locs1 cells slots Q (F0 m (pc + 3) ls (.int v :: rest))) : W p l e R s m args below meth c H locs cells slots Q (F0 m pc ls st0) :=
  va_calli hr hS (fun q h1 h2 => absurd h1 (Nat.not_lt.mpr h2)) (fun q h => hA q (Nat.le_trans hS.1 h)) (fun r u t H1 locs1 ht hvm hw hB hz hk hS => by
    subst hw
    exact kk H1 locs1 (hP.kept (fun k q hq => hk q.1 (hP k q hq).lt (Nat.not_le.mpr (hP k q hq).lt))) hS)
theorem zrol {v : Int64} {av : Array Value} (hr : va_Run p l e R s m args below meth c H locs cells slots 0 0 (F0 m pc ls st0) rest (zQl H.size v av) (zfr H.size)) (hP : va_P D cl ws H) (hS : va_S A H0 H locs) (hA : ∀ q : Nat, H0.size ≤ q → A q)
    (kk : ∀ (H1 : Heap) (locs1 : List Loc), va_P D cl ws H1 → va_S A H0 H1 locs1 → W p l e R s m args below meth c H1 locs1 cells slots Q (F0 m (pc + 3) ls (.long v :: rest))) : W p l e R s m args below meth c H locs cells slots Q (F0 m pc ls st0) :=
  va_calll hr hS (fun q h1 h2 => absurd h1 (Nat.not_lt.mpr h2)) (fun q h => hA q (Nat.le_trans hS.1 h)) (fun r u t H1 locs1 ht hvm hw hB hz hk hS => by
    subst hw
    exact kk H1 locs1 (hP.kept (fun k q hq => hk q.1 (hP k q hq).lt (Nat.not_le.mpr (hP k q hq).lt))) hS)
theorem zror {v : Nat} {av : Array Value} (hr : va_Run p l e R s m args below meth c H locs cells slots 0 0 (F0 m pc ls st0) rest (zQr H.size v av) (zfr H.size)) (hP : va_P D cl ws H) (hS : va_S A H0 H locs) (hA : ∀ q : Nat, H0.size ≤ q → A q)
    (kk : ∀ (H1 : Heap) (locs1 : List Loc), va_P D cl ws H1 → va_S A H0 H1 locs1 → W p l e R s m args below meth c H1 locs1 cells slots Q (F0 m (pc + 3) ls (.ref v :: rest))) : W p l e R s m args below meth c H locs cells slots Q (F0 m pc ls st0) :=
  va_callr hr hS (fun q h1 h2 => absurd h1 (Nat.not_lt.mpr h2)) (fun q h => hA q (Nat.le_trans hS.1 h)) (fun u ra t H1 locs1 ht hvm hw hB hz hk hS => by
    have hB : ra = v := hB
    subst hB
    exact kk H1 locs1 (hP.kept (fun k q hq => hk q.1 (hP k q hq).lt (Nat.not_le.mpr (hP k q hq).lt))) hS)
theorem zwri {S : Type} {post : Int32 → S → Prop} {w1 : S → va_W} {wc : va_W} {av : Array Value} (hr : va_Run p l e R s m args below meth c H locs cells slots 0 0 (F0 m pc ls st0) rest (va_Qi post (fun u t => va_P D cl (w1 u) t.heap) (va_A wc H.size) av) (va_A wc H.size)) (hP : va_P D cl ws H) (hD : va_D A ws) (hS : va_S A H0 H locs) (hA : ∀ q : Nat, H0.size ≤ q → A q)
    (isC : List Nat) (hC : isC.map (fun i => ws[i]?) = wc.map some) (hl : ∀ u, (w1 u).length = isC.length) (ha : ∀ u, (rp ws isC (w1 u)).map Prod.fst = ws.map Prod.fst)
    (kk : ∀ (r : Int32) (u : S) (H1 : Heap) (locs1 : List Loc), post r u → va_P D cl (rp ws isC (w1 u)) H1 → va_D A (rp ws isC (w1 u)) → va_S A H0 H1 locs1 → W p l e R s m args below meth c H1 locs1 cells slots Q (F0 m (pc + 3) ls (.int r :: rest))) : W p l e R s m args below meth c H locs cells slots Q (F0 m pc ls st0) := by
  have hF := va_free hD hS hA isC hC
  exact va_calli hr hS (fun q _ h => hF q h) hF (fun r u t H1 locs1 ht hvm hw hB hz hk hS => kk r u H1 locs1 hw (zjn hP hD isC hC hk (by rw [← ht]; exact hB) (hl u)) (zDs hD (ha u)) hS)
theorem zwrv {S : Type} {post : S → Prop} {w1 : S → va_W} {wc : va_W} {av : Array Value} (hr : va_Run p l e R s m args below meth c H locs cells slots 0 0 (F0 m pc ls st0) rest (va_Qv post (fun u t => va_P D cl (w1 u) t.heap) (va_A wc H.size) av) (va_A wc H.size)) (hP : va_P D cl ws H) (hD : va_D A ws) (hS : va_S A H0 H locs) (hA : ∀ q : Nat, H0.size ≤ q → A q)
    (isC : List Nat) (hC : isC.map (fun i => ws[i]?) = wc.map some) (hl : ∀ u, (w1 u).length = isC.length) (ha : ∀ u, (rp ws isC (w1 u)).map Prod.fst = ws.map Prod.fst)
    (kk : ∀ (u : S) (H1 : Heap) (locs1 : List Loc), post u → va_P D cl (rp ws isC (w1 u)) H1 → va_D A (rp ws isC (w1 u)) → va_S A H0 H1 locs1 → W p l e R s m args below meth c H1 locs1 cells slots Q (F0 m (pc + 3) ls rest)) : W p l e R s m args below meth c H locs cells slots Q (F0 m pc ls st0) := by
  have hF := va_free hD hS hA isC hC
  exact va_callv hr hS (fun q _ h => hF q h) hF (fun u t H1 locs1 ht hvm hw hB hz hk hS => kk u H1 locs1 hw (zjn hP hD isC hC hk (by rw [← ht]; exact hB) (hl u)) (zDs hD (ha u)) hS)
/-- System.arraycopy of a stretch of an int row, places as numbers -/
theorem zcpy (hexec : p.tables.exec = Jvm.exec) (hb : c.code = cc) (hml : c.maxLocals = ls.size) {own : String} {index : Nat} (hown : s.vm.findClass own = some m.cls) (hlink : (Cond.methodLink own index arraycopyName).before args s = true) (hnat : (Cond.native arraycopyName).before args s = true) (hstat : (Cond.static arraycopyName).before args s = true) (hini : (Cond.initialized "java/lang/System").before args s = true)
    (hK : va_K D cl tys s) (hP : va_P D cl ws H) (hD : va_D A ws) (hS : va_S A H0 H locs) (q0 q1 t0 : Nat) {a0 : Nat} {c0 : ClassId} {n0 n1 : Nat} {f g : Nat → Int32} (ha0 : ws[q0]? = some (a0, .inl (c0, n0, .inl f))) (ha1 : ws[q1]? = some (a, .inl (c0, n1, .inl g))) (ht0 : tys[t0]? = some (c0, .int))
    {sp dp n : Nat} (h4 : sp + n ≤ n0) (h5 : dp + n ≤ n1) (b0 : n0 < 2 ^ 31) (b1 : n1 < 2 ^ 31)
    (hframes : 1 ≤ R.frames) (hlocals : (rest.map fun v => v.category).sum + (nativeFrameWords "java/lang/System" "arraycopy" 5 + 11) ≤ R.locals) (hdg : decode cc pc = .ok (.invokestatic index, 3))
    (kk : ∀ (H1 : Heap) (locs1 : List Loc), va_P D cl (ws.set q1 (a, .inl (c0, n1, .inl (va_cpy f g sp dp n)))) H1 → va_D A (ws.set q1 (a, .inl (c0, n1, .inl (va_cpy f g sp dp n)))) → va_S A H0 H1 locs1 → W p l e R s m args below meth c H1 locs1 cells slots Q (F0 m (pc + 3) ls rest)) : W p l e R s m args below meth c H locs cells slots Q (F0 m pc ls (.int (nI n) :: .int (nI dp) :: .ref a :: .int (nI sp) :: .ref a0 :: rest)) := by
  have e1 : (nI n).toNatClampNeg = n := nI_clamp (by omega)
  have e2 : (nI dp).toNatClampNeg = dp := nI_clamp (by omega)
  have e3 : (nI sp).toNatClampNeg = sp := nI_clamp (by omega)
  refine va_copyi hexec hb hml hown hlink hnat hstat hini hK hP hD hS q0 q1 t0 t0 ha0 ha1 ht0 ht0 rfl (nI_pos (by omega)) (nI_pos (by omega)) (nI_pos (by omega)) (by rw [e3, e1]; exact h4) (by rw [e2, e1]; exact h5) (fun i hi => rfl) hframes hlocals hdg ?_
  rw [e1, e2, e3]
  exact kk
end ZW
end
section
-- WORLDS: the cells of a table, of the class, of the reference
def gl (xs : List Nat) : Nat → Nat := fun j => xs.getD j 0
def wT (u0 u1 u2 u3 : Nat) (cI : ClassId) (T : TB) : va_W := [(u0, .inr (0, [.ref u1, .ref u2, .ref u3, .int (nI T.1)])), (u1, .inl (cI, 400, .inl T.2.1)), (u2, .inl (cI, 400, .inl T.2.2.1)), (u3, .inl (cI, 400, .inl T.2.2.2))]
def wR (g : Nat → Nat) (cI cT : ClassId) (a : RS) : va_W := [(g 0, .inr (1, [.ref (g 15), .ref (g 1), .ref (g 2), .int (nI (rL a))])), (g 1, .inl (cT, 3, .inr (.inr (.inr (.inr (fun j => some (g (3 + 4 * j)))))))), (g 2, .inl (cI, 4, .inl (fun j => nI (rRd a j)))), (g 3, .inr (0, [.ref (g 4), .ref (g 5), .ref (g 6), .int (nI ((tsel a 0).1))])), (g 4, .inl (cI, 400, .inl ((tsel a 0).2.1))), (g 5, .inl (cI, 400, .inl ((tsel a 0).2.2.1))), (g 6, .inl (cI, 400, .inl ((tsel a 0).2.2.2))), (g 7, .inr (0, [.ref (g 8), .ref (g 9), .ref (g 10), .int (nI ((tsel a 1).1))])), (g 8, .inl (cI, 400, .inl ((tsel a 1).2.1))), (g 9, .inl (cI, 400, .inl ((tsel a 1).2.2.1))), (g 10, .inl (cI, 400, .inl ((tsel a 1).2.2.2))), (g 11, .inr (0, [.ref (g 12), .ref (g 13), .ref (g 14), .int (nI ((tsel a 2).1))])), (g 12, .inl (cI, 400, .inl ((tsel a 2).2.1))), (g 13, .inl (cI, 400, .inl ((tsel a 2).2.2.1))), (g 14, .inl (cI, 400, .inl ((tsel a 2).2.2.2))), (g 15, .inr (0, [.ref (g 16), .ref (g 17), .ref (g 18), .int (nI ((tsel a 3).1))])), (g 16, .inl (cI, 400, .inl ((tsel a 3).2.1))), (g 17, .inl (cI, 400, .inl ((tsel a 3).2.2.1))), (g 18, .inl (cI, 400, .inl ((tsel a 3).2.2.2)))]
def wM (g : Nat → Nat) (cI : ClassId) (w : MS) : va_W := [(g 0, .inr (2, [.ref (g 1), .ref (g 2), .ref (g 3), .ref (g 4), .ref (g 5), .int (nI (mL w))])), (g 1, .inl (cI, 1600, .inl (mK w))), (g 2, .inl (cI, 1600, .inl (mV w))), (g 3, .inl (cI, 1600, .inl (mS w))), (g 4, .inl (cI, 4, .inl (fun j => nI (mC w j)))), (g 5, .inl (cI, 4, .inl (fun j => nI (mR w j))))]
def tb0 : TB := (0, (fun _ => nI 0), (fun _ => nI 0), (fun _ => nI 0))
def a0s : RS := (tb0, tb0, tb0, tb0, (fun _ => 0), 0)
def m0s : MS := ((fun _ => nI 0), (fun _ => nI 0), (fun _ => nI 0), (fun _ => 0), (fun _ => 0), 0)
theorem ok0 : okR 0 a0s := ⟨fun t ht => by rcases (show t = 0 ∨ t = 1 ∨ t = 2 ∨ t = 3 by omega) with h | h | h | h <;> subst h <;> exact ⟨by decide, fun i j _ hj => absurd hj (Nat.not_lt_zero _)⟩, fun r _ => Nat.le_refl _, Nat.le_refl _⟩
theorem eq0 : eqR a0s (view m0s) := ⟨fun t ht => by rcases (show t = 0 ∨ t = 1 ∨ t = 2 ∨ t = 3 by omega) with h | h | h | h <;> subst h <;> exact ⟨rfl, fun j hj => absurd hj (Nat.not_lt_zero _), fun j hj => absurd hj (Nat.not_lt_zero _), fun j hj => absurd hj (Nat.not_lt_zero _)⟩, fun r _ => rfl, rfl⟩
theorem wR_t {D : va_G} {cl : List vw_C} {H : Heap} {g : Nat → Nat} {cI cT : ClassId} {a : RS} {t : Nat} (hP : va_P D cl (wR g cI cT a) H) (ht : t < 4) : va_P D cl (wT (g (3 + 4 * t)) (g (4 + 4 * t)) (g (5 + 4 * t)) (g (6 + 4 * t)) cI (tsel a t)) H := by
  rcases (show t = 0 ∨ t = 1 ∨ t = 2 ∨ t = 3 by omega) with h | h | h | h <;> subst h
  · exact hP.sub [3, 4, 5, 6] rfl
  · exact hP.sub [7, 8, 9, 10] rfl
  · exact hP.sub [11, 12, 13, 14] rfl
  · exact hP.sub [15, 16, 17, 18] rfl
theorem wR_d {A : Nat → Prop} {g : Nat → Nat} {cI cT : ClassId} {a : RS} {t : Nat} (hD : va_D A (wR g cI cT a)) (ht : t < 4) : va_D A (wT (g (3 + 4 * t)) (g (4 + 4 * t)) (g (5 + 4 * t)) (g (6 + 4 * t)) cI (tsel a t)) := by
  rcases (show t = 0 ∨ t = 1 ∨ t = 2 ∨ t = 3 by omega) with h | h | h | h <;> subst h
  · exact hD.sub [3, 4, 5, 6] (by decide) rfl
  · exact hD.sub [7, 8, 9, 10] (by decide) rfl
  · exact hD.sub [11, 12, 13, 14] (by decide) rfl
  · exact hD.sub [15, 16, 17, 18] (by decide) rfl
theorem zq_congr {D : va_G} {cl : List vw_C} {ws : va_W} {H : Heap} (hP : va_P D cl ws H) (i : Nat) {a : Nat} {cA : ClassId} {n : Nat} {f f' : Nat → Option Nat} (h : ws[i]? = some (a, .inl (cA, n, .inr (.inr (.inr (.inr f)))))) (e : ∀ j, j < n → f j = f' j) : va_P D cl (ws.set i (a, .inl (cA, n, .inr (.inr (.inr (.inr f')))))) H := by
  intro k q hk
  by_cases c : k = i
  · subst c
    have hl : k < ws.length := (List.getElem?_eq_some_iff.mp h).1
    rw [List.getElem?_set_self hl] at hk
    cases hk
    have h1 : H[a]? = some (vp_cell cA (n, .inr (.inr (.inr (.inr f))))) := hP k _ h
    show H[a]? = some (vp_cell cA (n, .inr (.inr (.inr (.inr f')))))
    rw [h1, vp_cell_q, vp_cell_q]
    have e2 : (Array.ofFn (n := n) fun j => va_rf (f j.val)) = Array.ofFn (n := n) fun j => va_rf (f' j.val) := by
      congr 1
      funext j
      rw [e j.val j.isLt]
    unfold arrV
    rw [e2]
  · rw [List.getElem?_set_ne (Ne.symm c)] at hk
    exact hP k q hk
end
section
set_option maxHeartbeats 4000000 in
set_option maxRecDepth 100000 in
/-- placeOf: the first place whose key is not below k -/
theorem c_Table_placeOf (l : Launch) (dC : Nat → ClassId) (dI : Nat → Nat → Nat) (cI cT : ClassId) (u0 u1 u2 u3 : Nat) (T : TB) (k : Int32) (sz : Nat) (hok : okT T) : Met l yX0_placeOf wsX0_placeOf ({ frames := 0, cells := 0, slots := 0, locals := 0 }) (va_Pc [.ref u0, .int k] (zPW (dC, dI) vwCl cI cT (wT u0 u1 u2 u3 cI T) sz)) (zQi sz (nI (tPl T k))) 0 0 (zfr sz) := by
  refine Met.ofW (cc := cX0_placeOf) (maxL := 5) (ret := (some .int)) (by decide) rfl ?_
  intro p e s m args below meth c s₁ B hml hv
  obtain ⟨rfl, hsz, hP, hK, hD0⟩ := hv
  have hx := B.exec
  have hb := B.bytes
  have hr := B.returns
  have hts := atoms_spec (ws := wsX0_placeOf) B.pre
  have hown : s.vm.findClass RX0 = some m.cls := findClass_of_methodNamed B.named
  have hlocks := B.notSynchronized
  subst hsz
  have hA : ∀ q : Nat, s.heap.size ≤ q → (fun q : Nat => s.heap.size ≤ q) q := fun _ h => h
  have hS : va_S (fun q : Nat => s.heap.size ≤ q) s.heap s.heap [] := va_S.rf
  have hD := hD0
  have hl := lv_entry ([.ref u0, .int k]) (n := 5) (Nat.le_of_ble_eq_true rfl)
  rw [lg_entry_eq]
  generalize (lg_sl ([.ref u0, .int k]) ++ List.replicate (5 - (lg_sl ([.ref u0, .int k])).length) Slot.unset).toArray = ls at hl ⊢
  have hl : lv_has ls 5 [(0, .ref u0), (1, .int k)] := hl
  obtain ⟨hn, hs⟩ := id hok
  refine lv_iconst (v := nI 0) hx hb dX0_placeOf_0 (by decide) ?_
  refine lv_istore_n (lv' := [(2, .int (nI 0)), (0, .ref u0), (1, .int k)]) hx hb dX0_placeOf_1 rfl hl (by decide) rfl (fun ls hl => ?_)
  refine lv_aload_n hx hb dX0_placeOf_2 rfl (lv_at hl 1 rfl) ?_
  refine va_get (D := (dC, dI)) (ci := 0) (v := .int (nI T.1)) (C := RX0) (T := TX0) (N := 4) hx hb hts (by decide +kernel) hown hK hP 0 rfl rfl 3 (by decide) (hts (.fieldLink RX0 21 "RevisionTree$Table" "held" "I") (by decide +kernel)) (fun _ h9 => h9) rfl dX0_placeOf_3 ?_
  refine lv_istore_n (lv' := [(3, .int (nI T.1)), (2, .int (nI 0)), (0, .ref u0), (1, .int k)]) hx hb dX0_placeOf_6 rfl hl (by decide) rfl (fun ls hl => ?_)
  refine zloop (σ := Nat × Nat) (fun x H locs ls => match x with | (lo, hi) => (lo ≤ hi ∧ hi ≤ T.1 ∧ (∀ j, j < lo → T.2.1 j < k) ∧ (∀ j, hi ≤ j → j < T.1 → ¬ T.2.1 j < k)) ∧ va_P (dC, dI) vwCl (wT u0 u1 u2 u3 cI T) H ∧ va_S (fun q : Nat => s.heap.size ≤ q) s.heap H locs ∧ lv_has ls 5 [(0, .ref u0), (1, .int k), (2, .int (nI lo)), (3, .int (nI hi))]) (fun x => x.2 - x.1) ?_ (0, T.1) ⟨⟨Nat.zero_le _, Nat.le_refl _, fun j h => absurd h (Nat.not_lt_zero _), fun j h1 h2 => absurd h2 (by omega)⟩, hP, hS, lv_sub hl [2, 3, 1, 0] rfl⟩
  rintro ⟨lo, hi⟩ H locs ls ⟨⟨h1, h2, h3, h4⟩, hP, hS, hl⟩ ih
  refine lv_iload_n hx hb dX0_placeOf_7 rfl (lv_at hl 2 rfl) ?_
  refine lv_iload_n hx hb dX0_placeOf_8 rfl (lv_at hl 3 rfl) ?_
  refine zge (tgt := 44) hx hb dX0_placeOf_9 (by decide) (by omega) (by omega) (fun h_9 => ?_) (fun h_9 => ?_)
  · refine lv_iload_n hx hb dX0_placeOf_44 rfl (lv_at hl 2 rfl) ?_
    exact W.iret (v := nI lo) hx hb hr (fun t9 ht9 hW9 => ⟨⟨_, (), rfl, congrArg nI (isPl_pl ⟨by omega, h3, fun q => h4 lo (by omega) q⟩), trivial⟩, hS.F ht9⟩) hS.2.2 dX0_placeOf_45
  · refine lv_iload_n hx hb dX0_placeOf_12 rfl (lv_at hl 2 rfl) ?_
    refine lv_iload_n hx hb dX0_placeOf_13 rfl (lv_at hl 3 rfl) ?_
    refine lv_iadd hx hb dX0_placeOf_14 ?_
    refine zt (y := nI (lo + hi)) (nI_add _ _) ?_
    refine lv_iconst (v := nI 2) hx hb dX0_placeOf_15 (by decide) ?_
    refine lv_idiv hx hb dX0_placeOf_16 (by decide) ?_
    refine zt (y := nI ((lo + hi) / 2)) (pk_div (by omega) (by omega) (by omega)) ?_
    refine lv_istore (lv' := [(4, .int (nI ((lo + hi) / 2))), (0, .ref u0), (1, .int k), (2, .int (nI lo)), (3, .int (nI hi))]) hx hb dX0_placeOf_17 hl (by decide) rfl (fun ls hl => ?_)
    refine lv_aload_n hx hb dX0_placeOf_19 rfl (lv_at hl 1 rfl) ?_
    refine va_get (D := (dC, dI)) (ci := 0) (v := .ref u1) (C := RX0) (T := TX0) (N := 4) hx hb hts (by decide +kernel) hown hK hP 0 rfl rfl 0 (by decide) (hts (.fieldLink RX0 9 "RevisionTree$Table" "keys" "[I") (by decide +kernel)) (fun _ h9 => h9) rfl dX0_placeOf_20 ?_
    refine lv_iload hx hb dX0_placeOf_23 (lv_at hl 0 rfl) ?_
    refine zrdN hx hb hK hP 1 0 rfl rfl (j := (lo + hi) / 2) (by omega) (by decide) dX0_placeOf_25 ?_
    refine lv_iload_n hx hb dX0_placeOf_26 rfl (lv_at hl 2 rfl) ?_
    refine lv_icmp_ge (tgt := 38) hx hb dX0_placeOf_27 (by decide) (fun h_27 => ?_) (fun h_27 => ?_)
    · refine lv_iload hx hb dX0_placeOf_38 (lv_at hl 0 rfl) ?_
      refine lv_istore_n (lv' := [(3, .int (nI ((lo + hi) / 2))), (4, .int (nI ((lo + hi) / 2))), (0, .ref u0), (1, .int k), (2, .int (nI lo))]) hx hb dX0_placeOf_40 rfl hl (by decide) rfl (fun ls hl => ?_)
      refine lv_goto (tgt := 7) hx hb dX0_placeOf_41 (by decide) ?_
      exact ih (lo, (lo + hi) / 2) _ _ _ ⟨⟨by omega, by omega, h3, bs_hi hs h_27⟩, hP, hS, lv_sub hl [2, 3, 4, 0] rfl⟩ (by show ((lo + hi) / 2) - lo < hi - lo; omega)
    · refine lv_iload hx hb dX0_placeOf_30 (lv_at hl 0 rfl) ?_
      refine lv_iconst (v := nI 1) hx hb dX0_placeOf_32 (by decide) ?_
      refine lv_iadd hx hb dX0_placeOf_33 ?_
      refine zt (y := nI (((lo + hi) / 2) + 1)) (nI_add _ _) ?_
      refine lv_istore_n (lv' := [(2, .int (nI (((lo + hi) / 2) + 1))), (4, .int (nI ((lo + hi) / 2))), (0, .ref u0), (1, .int k), (3, .int (nI hi))]) hx hb dX0_placeOf_34 rfl hl (by decide) rfl (fun ls hl => ?_)
      refine lv_goto (tgt := 41) hx hb dX0_placeOf_35 (by decide) ?_
      refine lv_goto (tgt := 7) hx hb dX0_placeOf_41 (by decide) ?_
      exact ih (((lo + hi) / 2) + 1, hi) _ _ _ ⟨⟨by omega, h2, bs_lo hs (by omega) h_27, h4⟩, hP, hS, lv_sub hl [2, 3, 0, 4] rfl⟩ (by show hi - (((lo + hi) / 2) + 1) < hi - lo; omega)
set_option maxHeartbeats 4000000 in
set_option maxRecDepth 100000 in
/-- hasAt: the key stands at that place -/
theorem c_Table_hasAt (l : Launch) (dC : Nat → ClassId) (dI : Nat → Nat → Nat) (cI cT : ClassId) (u0 u1 u2 u3 : Nat) (T : TB) (i : Nat) (k : Int32) (sz : Nat) (hn : T.1 ≤ 400) (hi : i ≤ 400) : Met l yX0_hasAt wsX0_hasAt ({ frames := 0, cells := 0, slots := 0, locals := 0 }) (va_Pc [.ref u0, .int (nI i), .int k] (zPW (dC, dI) vwCl cI cT (wT u0 u1 u2 u3 cI T) sz)) (zQi sz (bz (i < T.1 ∧ T.2.1 i = k))) 0 0 (zfr sz) := by
  refine Met.ofW (cc := cX0_hasAt) (maxL := 3) (ret := (some .boolean)) (by decide) rfl ?_
  intro p e s m args below meth c s₁ B hml hv
  obtain ⟨rfl, hsz, hP, hK, hD0⟩ := hv
  have hx := B.exec
  have hb := B.bytes
  have hr := B.returns
  have hts := atoms_spec (ws := wsX0_hasAt) B.pre
  have hown : s.vm.findClass RX0 = some m.cls := findClass_of_methodNamed B.named
  have hlocks := B.notSynchronized
  subst hsz
  have hA : ∀ q : Nat, s.heap.size ≤ q → (fun q : Nat => s.heap.size ≤ q) q := fun _ h => h
  have hS : va_S (fun q : Nat => s.heap.size ≤ q) s.heap s.heap [] := va_S.rf
  have hD := hD0
  have hl := lv_entry ([.ref u0, .int (nI i), .int k]) (n := 3) (Nat.le_of_ble_eq_true rfl)
  rw [lg_entry_eq]
  generalize (lg_sl ([.ref u0, .int (nI i), .int k]) ++ List.replicate (3 - (lg_sl ([.ref u0, .int (nI i), .int k])).length) Slot.unset).toArray = ls at hl ⊢
  have hl : lv_has ls 3 [(0, .ref u0), (1, .int (nI i)), (2, .int k)] := hl
  refine lv_iload_n hx hb dX0_hasAt_0 rfl (lv_at hl 1 rfl) ?_
  refine lv_aload_n hx hb dX0_hasAt_1 rfl (lv_at hl 0 rfl) ?_
  refine va_get (D := (dC, dI)) (ci := 0) (v := .int (nI T.1)) (C := RX0) (T := TX0) (N := 4) hx hb hts (by decide +kernel) hown hK hP 0 rfl rfl 3 (by decide) (hts (.fieldLink RX0 21 "RevisionTree$Table" "held" "I") (by decide +kernel)) (fun _ h9 => h9) rfl dX0_hasAt_2 ?_
  refine zge (tgt := 22) hx hb dX0_hasAt_5 (by decide) (by omega) (by omega) (fun h_5 => ?_) (fun h_5 => ?_)
  · refine lv_iconst (v := nI 0) hx hb dX0_hasAt_22 (by decide) ?_
    exact W.zret (v := nI 0) hx hb hr rfl (fun t9 ht9 hW9 => ⟨⟨_, (), rfl, (bz_f (fun q => absurd q.1 (by omega))).symm, trivial⟩, hS.F ht9⟩) hS.2.2 dX0_hasAt_23
  · refine lv_aload_n hx hb dX0_hasAt_8 rfl (lv_at hl 0 rfl) ?_
    refine va_get (D := (dC, dI)) (ci := 0) (v := .ref u1) (C := RX0) (T := TX0) (N := 4) hx hb hts (by decide +kernel) hown hK hP 0 rfl rfl 0 (by decide) (hts (.fieldLink RX0 9 "RevisionTree$Table" "keys" "[I") (by decide +kernel)) (fun _ h9 => h9) rfl dX0_hasAt_9 ?_
    refine lv_iload_n hx hb dX0_hasAt_12 rfl (lv_at hl 1 rfl) ?_
    refine zrdN hx hb hK hP 1 0 rfl rfl (j := i) (by omega) (by decide) dX0_hasAt_13 ?_
    refine lv_iload_n hx hb dX0_hasAt_14 rfl (lv_at hl 2 rfl) ?_
    refine lv_icmp_ne (tgt := 22) hx hb dX0_hasAt_15 (by decide) (fun h_15 => ?_) (fun h_15 => ?_)
    · refine lv_iconst (v := nI 0) hx hb dX0_hasAt_22 (by decide) ?_
      exact W.zret (v := nI 0) hx hb hr rfl (fun t9 ht9 hW9 => ⟨⟨_, (), rfl, (bz_f (fun q => h_15 q.2)).symm, trivial⟩, hS.F ht9⟩) hS.2.2 dX0_hasAt_23
    · refine lv_iconst (v := nI 1) hx hb dX0_hasAt_18 (by decide) ?_
      refine lv_goto (tgt := 23) hx hb dX0_hasAt_19 (by decide) ?_
      exact W.zret (v := nI 1) hx hb hr rfl (fun t9 ht9 hW9 => ⟨⟨_, (), rfl, (bz_t ⟨h_5, h_15⟩).symm, trivial⟩, hS.F ht9⟩) hS.2.2 dX0_hasAt_23
set_option maxHeartbeats 4000000 in
set_option maxRecDepth 100000 in
/-- placeAbove: the first place whose key is above k -/
theorem c_Table_placeAbove (l : Launch) (dC : Nat → ClassId) (dI : Nat → Nat → Nat) (cI cT : ClassId) (u0 u1 u2 u3 : Nat) (T : TB) (k : Int32) (sz : Nat) (hok : okT T) : Met l yX0_placeAbove wsX0_placeAbove ({ frames := 1, cells := 0, slots := 0, locals := 24 }) (va_Pc [.ref u0, .int k] (zPW (dC, dI) vwCl cI cT (wT u0 u1 u2 u3 cI T) sz)) (zQi sz (nI (tAb T k))) 0 0 (zfr sz) := by
  refine Met.ofW (cc := cX0_placeAbove) (maxL := 3) (ret := (some .int)) (by decide) rfl ?_
  intro p e s m args below meth c s₁ B hml hv
  obtain ⟨rfl, hsz, hP, hK, hD0⟩ := hv
  have hx := B.exec
  have hb := B.bytes
  have hr := B.returns
  have hts := atoms_spec (ws := wsX0_placeAbove) B.pre
  have hown : s.vm.findClass RX0 = some m.cls := findClass_of_methodNamed B.named
  have hlocks := B.notSynchronized
  subst hsz
  have hA : ∀ q : Nat, s.heap.size ≤ q → (fun q : Nat => s.heap.size ≤ q) q := fun _ h => h
  have hS : va_S (fun q : Nat => s.heap.size ≤ q) s.heap s.heap [] := va_S.rf
  have hD := hD0
  have hl := lv_entry ([.ref u0, .int k]) (n := 3) (Nat.le_of_ble_eq_true rfl)
  rw [lg_entry_eq]
  generalize (lg_sl ([.ref u0, .int k]) ++ List.replicate (3 - (lg_sl ([.ref u0, .int k])).length) Slot.unset).toArray = ls at hl ⊢
  have hl : lv_has ls 3 [(0, .ref u0), (1, .int k)] := hl
  obtain ⟨hn, hs⟩ := id hok
  have hpl : tPl T k ≤ T.1 := pl_le _ _ _
  refine lv_aload_n hx hb dX0_placeAbove_0 rfl (lv_at hl 0 rfl) ?_
  refine lv_iload_n hx hb dX0_placeAbove_1 rfl (lv_at hl 1 rfl) ?_
  refine zroi (va_runV (As := [.int k]) (rest := []) ⟨hx, hb, hml, hown, hts⟩ (c_Table_placeOf l dC dI cI cT u0 u1 u2 u3 T k s.heap.size hok) (cwV 1 hts gX0_placeAbove_X0_placeOf rfl rfl rfl (by decide +kernel) ⟨Nat.le_of_ble_eq_true rfl, Nat.le_of_ble_eq_true rfl⟩) (zpreV hK hP hD rfl 0 rfl) rfl rfl hl.1 rfl (lv_room (Nat.le_of_ble_eq_true rfl)) dX0_placeAbove_2 ⟨Nat.le_of_ble_eq_true rfl, Nat.le_of_ble_eq_true rfl⟩) hP hS hA (fun H locs hP hS => ?_)
  refine lv_istore_n (lv' := [(2, .int (nI (tPl T k))), (0, .ref u0), (1, .int k)]) hx hb dX0_placeAbove_5 rfl hl (by decide) rfl (fun ls hl => ?_)
  refine lv_aload_n hx hb dX0_placeAbove_6 rfl (lv_at hl 1 rfl) ?_
  refine lv_iload_n hx hb dX0_placeAbove_7 rfl (lv_at hl 0 rfl) ?_
  refine lv_iload_n hx hb dX0_placeAbove_8 rfl (lv_at hl 2 rfl) ?_
  refine zroi (va_runV (As := [.int (nI (tPl T k)), .int k]) (rest := []) ⟨hx, hb, hml, hown, hts⟩ (c_Table_hasAt l dC dI cI cT u0 u1 u2 u3 T (tPl T k) k H.size hn (by omega)) (cwV 2 hts gX0_placeAbove_X0_hasAt rfl rfl rfl (by decide +kernel) ⟨Nat.le_of_ble_eq_true rfl, Nat.le_of_ble_eq_true rfl⟩) (zpreV hK hP hD rfl 0 rfl) rfl rfl hl.1 rfl (lv_room (Nat.le_of_ble_eq_true rfl)) dX0_placeAbove_9 ⟨Nat.le_of_ble_eq_true rfl, Nat.le_of_ble_eq_true rfl⟩) hP hS hA (fun H locs hP hS => ?_)
  refine zifeq (tgt := 21) hx hb dX0_placeAbove_12 (by decide) (fun h_12 => ?_) (fun h_12 => ?_)
  · refine lv_iload_n hx hb dX0_placeAbove_21 rfl (lv_at hl 0 rfl) ?_
    exact W.iret (v := nI (tPl T k)) hx hb hr (fun t9 ht9 hW9 => ⟨⟨_, (), rfl, congrArg nI (show tPl T k = tAb T k from (if_neg h_12).symm), trivial⟩, hS.F ht9⟩) hS.2.2 dX0_placeAbove_22
  · refine lv_iload_n hx hb dX0_placeAbove_15 rfl (lv_at hl 0 rfl) ?_
    refine lv_iconst (v := nI 1) hx hb dX0_placeAbove_16 (by decide) ?_
    refine lv_iadd hx hb dX0_placeAbove_17 ?_
    refine zt (y := nI ((tPl T k) + 1)) (nI_add _ _) ?_
    refine lv_goto (tgt := 22) hx hb dX0_placeAbove_18 (by decide) ?_
    exact W.iret (v := nI ((tPl T k) + 1)) hx hb hr (fun t9 ht9 hW9 => ⟨⟨_, (), rfl, congrArg nI (show tPl T k + 1 = tAb T k from (if_pos h_12).symm), trivial⟩, hS.F ht9⟩) hS.2.2 dX0_placeAbove_22
set_option maxHeartbeats 4000000 in
set_option maxRecDepth 100000 in
/-- fold: the digest of the table -/
theorem c_Table_fold (l : Launch) (dC : Nat → ClassId) (dI : Nat → Nat → Nat) (cI cT : ClassId) (u0 u1 u2 u3 : Nat) (T : TB) (sz : Nat) (hn : T.1 ≤ 400) : Met l yX0_fold wsX0_fold ({ frames := 0, cells := 0, slots := 0, locals := 0 }) (va_Pc [.ref u0] (zPW (dC, dI) vwCl cI cT (wT u0 u1 u2 u3 cI T) sz)) (zQi sz (tDg T)) 0 0 (zfr sz) := by
  refine Met.ofW (cc := cX0_fold) (maxL := 3) (ret := (some .int)) (by decide) rfl ?_
  intro p e s m args below meth c s₁ B hml hv
  obtain ⟨rfl, hsz, hP, hK, hD0⟩ := hv
  have hx := B.exec
  have hb := B.bytes
  have hr := B.returns
  have hts := atoms_spec (ws := wsX0_fold) B.pre
  have hown : s.vm.findClass RX0 = some m.cls := findClass_of_methodNamed B.named
  have hlocks := B.notSynchronized
  subst hsz
  have hA : ∀ q : Nat, s.heap.size ≤ q → (fun q : Nat => s.heap.size ≤ q) q := fun _ h => h
  have hS : va_S (fun q : Nat => s.heap.size ≤ q) s.heap s.heap [] := va_S.rf
  have hD := hD0
  have hl := lv_entry ([.ref u0]) (n := 3) (Nat.le_of_ble_eq_true rfl)
  rw [lg_entry_eq]
  generalize (lg_sl ([.ref u0]) ++ List.replicate (3 - (lg_sl ([.ref u0])).length) Slot.unset).toArray = ls at hl ⊢
  have hl : lv_has ls 3 [(0, .ref u0)] := hl
  refine lv_iconst (v := nI 0) hx hb dX0_fold_0 (by decide) ?_
  refine lv_istore_n (lv' := [(1, .int (nI 0)), (0, .ref u0)]) hx hb dX0_fold_1 rfl hl (by decide) rfl (fun ls hl => ?_)
  refine lv_iconst (v := nI 0) hx hb dX0_fold_2 (by decide) ?_
  refine lv_istore_n (lv' := [(2, .int (nI 0)), (1, .int (nI 0)), (0, .ref u0)]) hx hb dX0_fold_3 rfl hl (by decide) rfl (fun ls hl => ?_)
  refine zloop (σ := Nat) (fun i H locs ls => i ≤ T.1 ∧ va_P (dC, dI) vwCl (wT u0 u1 u2 u3 cI T) H ∧ va_S (fun q : Nat => s.heap.size ≤ q) s.heap H locs ∧ lv_has ls 3 [(0, .ref u0), (1, .int (dgF T.2.1 T.2.2.1 T.2.2.2 i)), (2, .int (nI i))]) (fun i => T.1 - i) ?_ 0 ⟨Nat.zero_le _, hP, hS, lv_sub hl [2, 1, 0] rfl⟩
  rintro i H locs ls ⟨h1, hP, hS, hl⟩ ih
  refine lv_iload_n hx hb dX0_fold_4 rfl (lv_at hl 2 rfl) ?_
  refine lv_aload_n hx hb dX0_fold_5 rfl (lv_at hl 0 rfl) ?_
  refine va_get (D := (dC, dI)) (ci := 0) (v := .int (nI T.1)) (C := RX0) (T := TX0) (N := 4) hx hb hts (by decide +kernel) hown hK hP 0 rfl rfl 3 (by decide) (hts (.fieldLink RX0 21 "RevisionTree$Table" "held" "I") (by decide +kernel)) (fun _ h9 => h9) rfl dX0_fold_6 ?_
  refine zge (tgt := 49) hx hb dX0_fold_9 (by decide) (by omega) (by omega) (fun h_9 => ?_) (fun h_9 => ?_)
  · refine lv_iload_n hx hb dX0_fold_49 rfl (lv_at hl 1 rfl) ?_
    have ei : i = T.1 := by omega
    exact W.iret (v := dgF T.2.1 T.2.2.1 T.2.2.2 i) hx hb hr (fun t9 ht9 hW9 => ⟨⟨_, (), rfl, by rw [ei]; rfl, trivial⟩, hS.F ht9⟩) hS.2.2 dX0_fold_50
  · refine lv_iload_n hx hb dX0_fold_12 rfl (lv_at hl 1 rfl) ?_
    refine lv_bipush (v := nI 31) hx hb dX0_fold_13 (by decide) ?_
    refine lv_imul hx hb dX0_fold_15 ?_
    refine lv_aload_n hx hb dX0_fold_16 rfl (lv_at hl 0 rfl) ?_
    refine va_get (D := (dC, dI)) (ci := 0) (v := .ref u1) (C := RX0) (T := TX0) (N := 4) hx hb hts (by decide +kernel) hown hK hP 0 rfl rfl 0 (by decide) (hts (.fieldLink RX0 9 "RevisionTree$Table" "keys" "[I") (by decide +kernel)) (fun _ h9 => h9) rfl dX0_fold_17 ?_
    refine lv_iload_n hx hb dX0_fold_20 rfl (lv_at hl 2 rfl) ?_
    refine zrdN hx hb hK hP 1 0 rfl rfl (j := i) (by omega) (by decide) dX0_fold_21 ?_
    refine lv_iadd hx hb dX0_fold_22 ?_
    refine lv_istore_n (lv' := [(1, .int (((dgF T.2.1 T.2.2.1 T.2.2.2 i) * (nI 31)) + (T.2.1 i))), (0, .ref u0), (2, .int (nI i))]) hx hb dX0_fold_23 rfl hl (by decide) rfl (fun ls hl => ?_)
    refine lv_iload_n hx hb dX0_fold_24 rfl (lv_at hl 0 rfl) ?_
    refine lv_bipush (v := nI 31) hx hb dX0_fold_25 (by decide) ?_
    refine lv_imul hx hb dX0_fold_27 ?_
    refine lv_aload_n hx hb dX0_fold_28 rfl (lv_at hl 1 rfl) ?_
    refine va_get (D := (dC, dI)) (ci := 0) (v := .ref u2) (C := RX0) (T := TX0) (N := 4) hx hb hts (by decide +kernel) hown hK hP 0 rfl rfl 1 (by decide) (hts (.fieldLink RX0 15 "RevisionTree$Table" "values" "[I") (by decide +kernel)) (fun _ h9 => h9) rfl dX0_fold_29 ?_
    refine lv_iload_n hx hb dX0_fold_32 rfl (lv_at hl 2 rfl) ?_
    refine zrdN hx hb hK hP 2 0 rfl rfl (j := i) (by omega) (by decide) dX0_fold_33 ?_
    refine lv_iadd hx hb dX0_fold_34 ?_
    refine lv_aload_n hx hb dX0_fold_35 rfl (lv_at hl 1 rfl) ?_
    refine va_get (D := (dC, dI)) (ci := 0) (v := .ref u3) (C := RX0) (T := TX0) (N := 4) hx hb hts (by decide +kernel) hown hK hP 0 rfl rfl 2 (by decide) (hts (.fieldLink RX0 18 "RevisionTree$Table" "sizes" "[I") (by decide +kernel)) (fun _ h9 => h9) rfl dX0_fold_36 ?_
    refine lv_iload_n hx hb dX0_fold_39 rfl (lv_at hl 2 rfl) ?_
    refine zrdN hx hb hK hP 3 0 rfl rfl (j := i) (by omega) (by decide) dX0_fold_40 ?_
    refine lv_iadd hx hb dX0_fold_41 ?_
    refine lv_istore_n (lv' := [(1, .int ((((((dgF T.2.1 T.2.2.1 T.2.2.2 i) * (nI 31)) + (T.2.1 i)) * (nI 31)) + (T.2.2.1 i)) + (T.2.2.2 i))), (0, .ref u0), (2, .int (nI i))]) hx hb dX0_fold_42 rfl hl (by decide) rfl (fun ls hl => ?_)
    refine lv_iinc (v := nI (i + 1)) (lv' := [(2, .int (nI (i + 1))), (1, .int ((((((dgF T.2.1 T.2.2.1 T.2.2.2 i) * (nI 31)) + (T.2.1 i)) * (nI 31)) + (T.2.2.1 i)) + (T.2.2.2 i))), (0, .ref u0)]) hx hb dX0_fold_43 hl (k := 2) rfl (zinc _) (by decide) rfl (fun ls hl => ?_)
    refine lv_goto (tgt := 4) hx hb dX0_fold_46 (by decide) ?_
    exact ih (i + 1) _ _ _ ⟨by omega, hP, hS, lv_sub hl [2, 1, 0] rfl⟩ (by show T.1 - (i + 1) < T.1 - i; omega)
end
section
-- MORE ROWS: new int rows of any length, all 0
theorem z0c (n : Nat) (cA : ClassId) : vp_cell cA (n, .inl (fun _ => nI 0)) = arrV cA n (fun _ => defaultValue .int) := rfl
end
section
set_option maxHeartbeats 4000000 in
set_option maxRecDepth 100000 in
/-- shift: what stands at fr and behind it goes to to -/
theorem c_Table_shift (l : Launch) (dC : Nat → ClassId) (dI : Nat → Nat → Nat) (cI cT : ClassId) (u0 u1 u2 u3 : Nat) (T : TB) (fr to : Nat) (sz : Nat) (hn : T.1 ≤ 400) (hf : fr ≤ T.1) (ht : to + (T.1 - fr) ≤ 400) (ht2 : to ≤ 400) : Met l yX0_shift wsX0_shift ({ frames := 1, cells := 0, slots := 0, locals := 18 }) (va_Pc [.ref u0, .int (nI fr), .int (nI to)] (zPW (dC, dI) vwCl cI cT (wT u0 u1 u2 u3 cI T) sz)) (va_Qv (fun u : TB => u = (T.1, va_cpy T.2.1 T.2.1 fr to (T.1 - fr), va_cpy T.2.2.1 T.2.2.1 fr to (T.1 - fr), va_cpy T.2.2.2 T.2.2.2 fr to (T.1 - fr))) (fun u t => va_P (dC, dI) vwCl (wT u0 u1 u2 u3 cI u) t.heap) (va_A (wT u0 u1 u2 u3 cI T) sz)) 0 0 (va_A (wT u0 u1 u2 u3 cI T) sz) := by
  refine Met.ofW (cc := cX0_shift) (maxL := 4) (ret := none) (by decide) rfl ?_
  intro p e s m args below meth c s₁ B hml hv
  obtain ⟨rfl, hsz, hP, hK, hD0⟩ := hv
  have hx := B.exec
  have hb := B.bytes
  have hr := B.returns
  have hts := atoms_spec (ws := wsX0_shift) B.pre
  have hown : s.vm.findClass RX0 = some m.cls := findClass_of_methodNamed B.named
  have hlocks := B.notSynchronized
  subst hsz
  have hD := hD0.self (sz := s.heap.size)
  generalize hAe : va_A (wT u0 u1 u2 u3 cI T) s.heap.size = A at hD ⊢
  have hA : ∀ q : Nat, s.heap.size ≤ q → A q := fun q h => by rw [← hAe]; exact Or.inr h
  have hS : va_S A s.heap s.heap [] := va_S.rf
  have hl := lv_entry ([.ref u0, .int (nI fr), .int (nI to)]) (n := 4) (Nat.le_of_ble_eq_true rfl)
  rw [lg_entry_eq]
  generalize (lg_sl ([.ref u0, .int (nI fr), .int (nI to)]) ++ List.replicate (4 - (lg_sl ([.ref u0, .int (nI fr), .int (nI to)])).length) Slot.unset).toArray = ls at hl ⊢
  have hl : lv_has ls 4 [(0, .ref u0), (1, .int (nI fr)), (2, .int (nI to))] := hl
  refine lv_aload_n hx hb dX0_shift_0 rfl (lv_at hl 0 rfl) ?_
  refine va_get (D := (dC, dI)) (ci := 0) (v := .int (nI T.1)) (C := RX0) (T := TX0) (N := 4) hx hb hts (by decide +kernel) hown hK hP 0 rfl rfl 3 (by decide) (hts (.fieldLink RX0 21 "RevisionTree$Table" "held" "I") (by decide +kernel)) (fun _ h9 => h9) rfl dX0_shift_1 ?_
  refine lv_iload_n hx hb dX0_shift_4 rfl (lv_at hl 1 rfl) ?_
  refine lv_isub hx hb dX0_shift_5 ?_
  refine zt (y := nI (T.1 - fr)) (pk_sub (by omega)) ?_
  refine lv_istore_n (lv' := [(3, .int (nI (T.1 - fr))), (0, .ref u0), (1, .int (nI fr)), (2, .int (nI to))]) hx hb dX0_shift_6 rfl hl (by decide) rfl (fun ls hl => ?_)
  refine lv_aload_n hx hb dX0_shift_7 rfl (lv_at hl 1 rfl) ?_
  refine va_get (D := (dC, dI)) (ci := 0) (v := .ref u1) (C := RX0) (T := TX0) (N := 4) hx hb hts (by decide +kernel) hown hK hP 0 rfl rfl 0 (by decide) (hts (.fieldLink RX0 9 "RevisionTree$Table" "keys" "[I") (by decide +kernel)) (fun _ h9 => h9) rfl dX0_shift_8 ?_
  refine lv_iload_n hx hb dX0_shift_11 rfl (lv_at hl 2 rfl) ?_
  refine lv_aload_n hx hb dX0_shift_12 rfl (lv_at hl 1 rfl) ?_
  refine va_get (D := (dC, dI)) (ci := 0) (v := .ref u1) (C := RX0) (T := TX0) (N := 4) hx hb hts (by decide +kernel) hown hK hP 0 rfl rfl 0 (by decide) (hts (.fieldLink RX0 9 "RevisionTree$Table" "keys" "[I") (by decide +kernel)) (fun _ h9 => h9) rfl dX0_shift_13 ?_
  refine lv_iload_n hx hb dX0_shift_16 rfl (lv_at hl 3 rfl) ?_
  refine lv_iload_n hx hb dX0_shift_17 rfl (lv_at hl 0 rfl) ?_
  refine zcpy hx hb (hml.trans hl.1.symm) hown (hts (.methodLink RX0 37 arraycopyName) (by decide +kernel)) (hts (.native arraycopyName) (by decide +kernel)) (hts (.static arraycopyName) (by decide +kernel)) (hts (.initialized "java/lang/System") (by decide +kernel)) hK hP hD hS 1 1 0 rfl rfl rfl (sp := fr) (dp := to) (n := T.1 - fr) (by omega) (by omega) (by decide) (by decide) (Nat.le_of_ble_eq_true rfl) (Nat.le_of_ble_eq_true rfl) dX0_shift_18 (fun H locs hP hD hS => ?_)
  have hP : va_P (dC, dI) vwCl [(u0, .inr (0, [.ref u1, .ref u2, .ref u3, .int (nI T.1)])), (u1, .inl (cI, 400, .inl (va_cpy T.2.1 T.2.1 fr to (T.1 - fr)))), (u2, .inl (cI, 400, .inl T.2.2.1)), (u3, .inl (cI, 400, .inl T.2.2.2))] H := hP
  have hD : va_D A [(u0, .inr (0, [.ref u1, .ref u2, .ref u3, .int (nI T.1)])), (u1, .inl (cI, 400, .inl (va_cpy T.2.1 T.2.1 fr to (T.1 - fr)))), (u2, .inl (cI, 400, .inl T.2.2.1)), (u3, .inl (cI, 400, .inl T.2.2.2))] := hD
  refine lv_aload_n hx hb dX0_shift_21 rfl (lv_at hl 1 rfl) ?_
  refine va_get (D := (dC, dI)) (ci := 0) (v := .ref u2) (C := RX0) (T := TX0) (N := 4) hx hb hts (by decide +kernel) hown hK hP 0 rfl rfl 1 (by decide) (hts (.fieldLink RX0 15 "RevisionTree$Table" "values" "[I") (by decide +kernel)) (fun _ h9 => h9) rfl dX0_shift_22 ?_
  refine lv_iload_n hx hb dX0_shift_25 rfl (lv_at hl 2 rfl) ?_
  refine lv_aload_n hx hb dX0_shift_26 rfl (lv_at hl 1 rfl) ?_
  refine va_get (D := (dC, dI)) (ci := 0) (v := .ref u2) (C := RX0) (T := TX0) (N := 4) hx hb hts (by decide +kernel) hown hK hP 0 rfl rfl 1 (by decide) (hts (.fieldLink RX0 15 "RevisionTree$Table" "values" "[I") (by decide +kernel)) (fun _ h9 => h9) rfl dX0_shift_27 ?_
  refine lv_iload_n hx hb dX0_shift_30 rfl (lv_at hl 3 rfl) ?_
  refine lv_iload_n hx hb dX0_shift_31 rfl (lv_at hl 0 rfl) ?_
  refine zcpy hx hb (hml.trans hl.1.symm) hown (hts (.methodLink RX0 37 arraycopyName) (by decide +kernel)) (hts (.native arraycopyName) (by decide +kernel)) (hts (.static arraycopyName) (by decide +kernel)) (hts (.initialized "java/lang/System") (by decide +kernel)) hK hP hD hS 2 2 0 rfl rfl rfl (sp := fr) (dp := to) (n := T.1 - fr) (by omega) (by omega) (by decide) (by decide) (Nat.le_of_ble_eq_true rfl) (Nat.le_of_ble_eq_true rfl) dX0_shift_32 (fun H locs hP hD hS => ?_)
  have hP : va_P (dC, dI) vwCl [(u0, .inr (0, [.ref u1, .ref u2, .ref u3, .int (nI T.1)])), (u1, .inl (cI, 400, .inl (va_cpy T.2.1 T.2.1 fr to (T.1 - fr)))), (u2, .inl (cI, 400, .inl (va_cpy T.2.2.1 T.2.2.1 fr to (T.1 - fr)))), (u3, .inl (cI, 400, .inl T.2.2.2))] H := hP
  have hD : va_D A [(u0, .inr (0, [.ref u1, .ref u2, .ref u3, .int (nI T.1)])), (u1, .inl (cI, 400, .inl (va_cpy T.2.1 T.2.1 fr to (T.1 - fr)))), (u2, .inl (cI, 400, .inl (va_cpy T.2.2.1 T.2.2.1 fr to (T.1 - fr)))), (u3, .inl (cI, 400, .inl T.2.2.2))] := hD
  refine lv_aload_n hx hb dX0_shift_35 rfl (lv_at hl 1 rfl) ?_
  refine va_get (D := (dC, dI)) (ci := 0) (v := .ref u3) (C := RX0) (T := TX0) (N := 4) hx hb hts (by decide +kernel) hown hK hP 0 rfl rfl 2 (by decide) (hts (.fieldLink RX0 18 "RevisionTree$Table" "sizes" "[I") (by decide +kernel)) (fun _ h9 => h9) rfl dX0_shift_36 ?_
  refine lv_iload_n hx hb dX0_shift_39 rfl (lv_at hl 2 rfl) ?_
  refine lv_aload_n hx hb dX0_shift_40 rfl (lv_at hl 1 rfl) ?_
  refine va_get (D := (dC, dI)) (ci := 0) (v := .ref u3) (C := RX0) (T := TX0) (N := 4) hx hb hts (by decide +kernel) hown hK hP 0 rfl rfl 2 (by decide) (hts (.fieldLink RX0 18 "RevisionTree$Table" "sizes" "[I") (by decide +kernel)) (fun _ h9 => h9) rfl dX0_shift_41 ?_
  refine lv_iload_n hx hb dX0_shift_44 rfl (lv_at hl 3 rfl) ?_
  refine lv_iload_n hx hb dX0_shift_45 rfl (lv_at hl 0 rfl) ?_
  refine zcpy hx hb (hml.trans hl.1.symm) hown (hts (.methodLink RX0 37 arraycopyName) (by decide +kernel)) (hts (.native arraycopyName) (by decide +kernel)) (hts (.static arraycopyName) (by decide +kernel)) (hts (.initialized "java/lang/System") (by decide +kernel)) hK hP hD hS 3 3 0 rfl rfl rfl (sp := fr) (dp := to) (n := T.1 - fr) (by omega) (by omega) (by decide) (by decide) (Nat.le_of_ble_eq_true rfl) (Nat.le_of_ble_eq_true rfl) dX0_shift_46 (fun H locs hP hD hS => ?_)
  have hP : va_P (dC, dI) vwCl [(u0, .inr (0, [.ref u1, .ref u2, .ref u3, .int (nI T.1)])), (u1, .inl (cI, 400, .inl (va_cpy T.2.1 T.2.1 fr to (T.1 - fr)))), (u2, .inl (cI, 400, .inl (va_cpy T.2.2.1 T.2.2.1 fr to (T.1 - fr)))), (u3, .inl (cI, 400, .inl (va_cpy T.2.2.2 T.2.2.2 fr to (T.1 - fr))))] H := hP
  have hD : va_D A [(u0, .inr (0, [.ref u1, .ref u2, .ref u3, .int (nI T.1)])), (u1, .inl (cI, 400, .inl (va_cpy T.2.1 T.2.1 fr to (T.1 - fr)))), (u2, .inl (cI, 400, .inl (va_cpy T.2.2.1 T.2.2.1 fr to (T.1 - fr)))), (u3, .inl (cI, 400, .inl (va_cpy T.2.2.2 T.2.2.2 fr to (T.1 - fr))))] := hD
  exact W.vret hx hb hr (fun t9 ht9 hW9 => ⟨⟨(T.1, va_cpy T.2.1 T.2.1 fr to (T.1 - fr), va_cpy T.2.2.1 T.2.2.1 fr to (T.1 - fr), va_cpy T.2.2.2 T.2.2.2 fr to (T.1 - fr)), rfl, rfl, by show va_P _ _ _ t9.heap; rw [ht9]; exact hP⟩, hS.F ht9⟩) hS.2.2 dX0_shift_49
set_option maxHeartbeats 4000000 in
set_option maxRecDepth 100000 in
/-- copyFrom: the rows and the number of the other -/
theorem c_Table_copyFrom (l : Launch) (dC : Nat → ClassId) (dI : Nat → Nat → Nat) (cI cT : ClassId) (u0 u1 u2 u3 o0 o1 o2 o3 : Nat) (T X : TB) (sz : Nat) (hn : X.1 ≤ 400) : Met l yX0_copyFrom wsX0_copyFrom ({ frames := 1, cells := 0, slots := 0, locals := 18 }) (va_Pc [.ref u0, .ref o0] (zPW (dC, dI) vwCl cI cT (wT u0 u1 u2 u3 cI T ++ wT o0 o1 o2 o3 cI X) sz)) (va_Qv (fun u : TB => u = (X.1, va_cpy X.2.1 T.2.1 0 0 X.1, va_cpy X.2.2.1 T.2.2.1 0 0 X.1, va_cpy X.2.2.2 T.2.2.2 0 0 X.1)) (fun u t => va_P (dC, dI) vwCl (wT u0 u1 u2 u3 cI u ++ wT o0 o1 o2 o3 cI X) t.heap) (va_A (wT u0 u1 u2 u3 cI T ++ wT o0 o1 o2 o3 cI X) sz)) 0 0 (va_A (wT u0 u1 u2 u3 cI T ++ wT o0 o1 o2 o3 cI X) sz) := by
  refine Met.ofW (cc := cX0_copyFrom) (maxL := 2) (ret := none) (by decide) rfl ?_
  intro p e s m args below meth c s₁ B hml hv
  obtain ⟨rfl, hsz, hP, hK, hD0⟩ := hv
  have hx := B.exec
  have hb := B.bytes
  have hr := B.returns
  have hts := atoms_spec (ws := wsX0_copyFrom) B.pre
  have hown : s.vm.findClass RX0 = some m.cls := findClass_of_methodNamed B.named
  have hlocks := B.notSynchronized
  subst hsz
  have hD := hD0.self (sz := s.heap.size)
  generalize hAe : va_A (wT u0 u1 u2 u3 cI T ++ wT o0 o1 o2 o3 cI X) s.heap.size = A at hD ⊢
  have hA : ∀ q : Nat, s.heap.size ≤ q → A q := fun q h => by rw [← hAe]; exact Or.inr h
  have hS : va_S A s.heap s.heap [] := va_S.rf
  have hl := lv_entry ([.ref u0, .ref o0]) (n := 2) (Nat.le_of_ble_eq_true rfl)
  rw [lg_entry_eq]
  generalize (lg_sl ([.ref u0, .ref o0]) ++ List.replicate (2 - (lg_sl ([.ref u0, .ref o0])).length) Slot.unset).toArray = ls at hl ⊢
  have hl : lv_has ls 2 [(0, .ref u0), (1, .ref o0)] := hl
  refine lv_aload_n hx hb dX0_copyFrom_0 rfl (lv_at hl 1 rfl) ?_
  refine va_get (D := (dC, dI)) (ci := 0) (v := .ref o1) (C := RX0) (T := TX0) (N := 4) hx hb hts (by decide +kernel) hown hK hP 4 rfl rfl 0 (by decide) (hts (.fieldLink RX0 9 "RevisionTree$Table" "keys" "[I") (by decide +kernel)) (fun _ h9 => h9) rfl dX0_copyFrom_1 ?_
  refine lv_iconst (v := nI 0) hx hb dX0_copyFrom_4 (by decide) ?_
  refine lv_aload_n hx hb dX0_copyFrom_5 rfl (lv_at hl 0 rfl) ?_
  refine va_get (D := (dC, dI)) (ci := 0) (v := .ref u1) (C := RX0) (T := TX0) (N := 4) hx hb hts (by decide +kernel) hown hK hP 0 rfl rfl 0 (by decide) (hts (.fieldLink RX0 9 "RevisionTree$Table" "keys" "[I") (by decide +kernel)) (fun _ h9 => h9) rfl dX0_copyFrom_6 ?_
  refine lv_iconst (v := nI 0) hx hb dX0_copyFrom_9 (by decide) ?_
  refine lv_aload_n hx hb dX0_copyFrom_10 rfl (lv_at hl 1 rfl) ?_
  refine va_get (D := (dC, dI)) (ci := 0) (v := .int (nI X.1)) (C := RX0) (T := TX0) (N := 4) hx hb hts (by decide +kernel) hown hK hP 4 rfl rfl 3 (by decide) (hts (.fieldLink RX0 21 "RevisionTree$Table" "held" "I") (by decide +kernel)) (fun _ h9 => h9) rfl dX0_copyFrom_11 ?_
  refine zcpy hx hb (hml.trans hl.1.symm) hown (hts (.methodLink RX0 37 arraycopyName) (by decide +kernel)) (hts (.native arraycopyName) (by decide +kernel)) (hts (.static arraycopyName) (by decide +kernel)) (hts (.initialized "java/lang/System") (by decide +kernel)) hK hP hD hS 5 1 0 rfl rfl rfl (sp := 0) (dp := 0) (n := X.1) (by omega) (by omega) (by decide) (by decide) (Nat.le_of_ble_eq_true rfl) (Nat.le_of_ble_eq_true rfl) dX0_copyFrom_14 (fun H locs hP hD hS => ?_)
  have hP : va_P (dC, dI) vwCl [(u0, .inr (0, [.ref u1, .ref u2, .ref u3, .int (nI T.1)])), (u1, .inl (cI, 400, .inl (va_cpy X.2.1 T.2.1 0 0 X.1))), (u2, .inl (cI, 400, .inl T.2.2.1)), (u3, .inl (cI, 400, .inl T.2.2.2)), (o0, .inr (0, [.ref o1, .ref o2, .ref o3, .int (nI X.1)])), (o1, .inl (cI, 400, .inl X.2.1)), (o2, .inl (cI, 400, .inl X.2.2.1)), (o3, .inl (cI, 400, .inl X.2.2.2))] H := hP
  have hD : va_D A [(u0, .inr (0, [.ref u1, .ref u2, .ref u3, .int (nI T.1)])), (u1, .inl (cI, 400, .inl (va_cpy X.2.1 T.2.1 0 0 X.1))), (u2, .inl (cI, 400, .inl T.2.2.1)), (u3, .inl (cI, 400, .inl T.2.2.2)), (o0, .inr (0, [.ref o1, .ref o2, .ref o3, .int (nI X.1)])), (o1, .inl (cI, 400, .inl X.2.1)), (o2, .inl (cI, 400, .inl X.2.2.1)), (o3, .inl (cI, 400, .inl X.2.2.2))] := hD
  refine lv_aload_n hx hb dX0_copyFrom_17 rfl (lv_at hl 1 rfl) ?_
  refine va_get (D := (dC, dI)) (ci := 0) (v := .ref o2) (C := RX0) (T := TX0) (N := 4) hx hb hts (by decide +kernel) hown hK hP 4 rfl rfl 1 (by decide) (hts (.fieldLink RX0 15 "RevisionTree$Table" "values" "[I") (by decide +kernel)) (fun _ h9 => h9) rfl dX0_copyFrom_18 ?_
  refine lv_iconst (v := nI 0) hx hb dX0_copyFrom_21 (by decide) ?_
  refine lv_aload_n hx hb dX0_copyFrom_22 rfl (lv_at hl 0 rfl) ?_
  refine va_get (D := (dC, dI)) (ci := 0) (v := .ref u2) (C := RX0) (T := TX0) (N := 4) hx hb hts (by decide +kernel) hown hK hP 0 rfl rfl 1 (by decide) (hts (.fieldLink RX0 15 "RevisionTree$Table" "values" "[I") (by decide +kernel)) (fun _ h9 => h9) rfl dX0_copyFrom_23 ?_
  refine lv_iconst (v := nI 0) hx hb dX0_copyFrom_26 (by decide) ?_
  refine lv_aload_n hx hb dX0_copyFrom_27 rfl (lv_at hl 1 rfl) ?_
  refine va_get (D := (dC, dI)) (ci := 0) (v := .int (nI X.1)) (C := RX0) (T := TX0) (N := 4) hx hb hts (by decide +kernel) hown hK hP 4 rfl rfl 3 (by decide) (hts (.fieldLink RX0 21 "RevisionTree$Table" "held" "I") (by decide +kernel)) (fun _ h9 => h9) rfl dX0_copyFrom_28 ?_
  refine zcpy hx hb (hml.trans hl.1.symm) hown (hts (.methodLink RX0 37 arraycopyName) (by decide +kernel)) (hts (.native arraycopyName) (by decide +kernel)) (hts (.static arraycopyName) (by decide +kernel)) (hts (.initialized "java/lang/System") (by decide +kernel)) hK hP hD hS 6 2 0 rfl rfl rfl (sp := 0) (dp := 0) (n := X.1) (by omega) (by omega) (by decide) (by decide) (Nat.le_of_ble_eq_true rfl) (Nat.le_of_ble_eq_true rfl) dX0_copyFrom_31 (fun H locs hP hD hS => ?_)
  have hP : va_P (dC, dI) vwCl [(u0, .inr (0, [.ref u1, .ref u2, .ref u3, .int (nI T.1)])), (u1, .inl (cI, 400, .inl (va_cpy X.2.1 T.2.1 0 0 X.1))), (u2, .inl (cI, 400, .inl (va_cpy X.2.2.1 T.2.2.1 0 0 X.1))), (u3, .inl (cI, 400, .inl T.2.2.2)), (o0, .inr (0, [.ref o1, .ref o2, .ref o3, .int (nI X.1)])), (o1, .inl (cI, 400, .inl X.2.1)), (o2, .inl (cI, 400, .inl X.2.2.1)), (o3, .inl (cI, 400, .inl X.2.2.2))] H := hP
  have hD : va_D A [(u0, .inr (0, [.ref u1, .ref u2, .ref u3, .int (nI T.1)])), (u1, .inl (cI, 400, .inl (va_cpy X.2.1 T.2.1 0 0 X.1))), (u2, .inl (cI, 400, .inl (va_cpy X.2.2.1 T.2.2.1 0 0 X.1))), (u3, .inl (cI, 400, .inl T.2.2.2)), (o0, .inr (0, [.ref o1, .ref o2, .ref o3, .int (nI X.1)])), (o1, .inl (cI, 400, .inl X.2.1)), (o2, .inl (cI, 400, .inl X.2.2.1)), (o3, .inl (cI, 400, .inl X.2.2.2))] := hD
  refine lv_aload_n hx hb dX0_copyFrom_34 rfl (lv_at hl 1 rfl) ?_
  refine va_get (D := (dC, dI)) (ci := 0) (v := .ref o3) (C := RX0) (T := TX0) (N := 4) hx hb hts (by decide +kernel) hown hK hP 4 rfl rfl 2 (by decide) (hts (.fieldLink RX0 18 "RevisionTree$Table" "sizes" "[I") (by decide +kernel)) (fun _ h9 => h9) rfl dX0_copyFrom_35 ?_
  refine lv_iconst (v := nI 0) hx hb dX0_copyFrom_38 (by decide) ?_
  refine lv_aload_n hx hb dX0_copyFrom_39 rfl (lv_at hl 0 rfl) ?_
  refine va_get (D := (dC, dI)) (ci := 0) (v := .ref u3) (C := RX0) (T := TX0) (N := 4) hx hb hts (by decide +kernel) hown hK hP 0 rfl rfl 2 (by decide) (hts (.fieldLink RX0 18 "RevisionTree$Table" "sizes" "[I") (by decide +kernel)) (fun _ h9 => h9) rfl dX0_copyFrom_40 ?_
  refine lv_iconst (v := nI 0) hx hb dX0_copyFrom_43 (by decide) ?_
  refine lv_aload_n hx hb dX0_copyFrom_44 rfl (lv_at hl 1 rfl) ?_
  refine va_get (D := (dC, dI)) (ci := 0) (v := .int (nI X.1)) (C := RX0) (T := TX0) (N := 4) hx hb hts (by decide +kernel) hown hK hP 4 rfl rfl 3 (by decide) (hts (.fieldLink RX0 21 "RevisionTree$Table" "held" "I") (by decide +kernel)) (fun _ h9 => h9) rfl dX0_copyFrom_45 ?_
  refine zcpy hx hb (hml.trans hl.1.symm) hown (hts (.methodLink RX0 37 arraycopyName) (by decide +kernel)) (hts (.native arraycopyName) (by decide +kernel)) (hts (.static arraycopyName) (by decide +kernel)) (hts (.initialized "java/lang/System") (by decide +kernel)) hK hP hD hS 7 3 0 rfl rfl rfl (sp := 0) (dp := 0) (n := X.1) (by omega) (by omega) (by decide) (by decide) (Nat.le_of_ble_eq_true rfl) (Nat.le_of_ble_eq_true rfl) dX0_copyFrom_48 (fun H locs hP hD hS => ?_)
  have hP : va_P (dC, dI) vwCl [(u0, .inr (0, [.ref u1, .ref u2, .ref u3, .int (nI T.1)])), (u1, .inl (cI, 400, .inl (va_cpy X.2.1 T.2.1 0 0 X.1))), (u2, .inl (cI, 400, .inl (va_cpy X.2.2.1 T.2.2.1 0 0 X.1))), (u3, .inl (cI, 400, .inl (va_cpy X.2.2.2 T.2.2.2 0 0 X.1))), (o0, .inr (0, [.ref o1, .ref o2, .ref o3, .int (nI X.1)])), (o1, .inl (cI, 400, .inl X.2.1)), (o2, .inl (cI, 400, .inl X.2.2.1)), (o3, .inl (cI, 400, .inl X.2.2.2))] H := hP
  have hD : va_D A [(u0, .inr (0, [.ref u1, .ref u2, .ref u3, .int (nI T.1)])), (u1, .inl (cI, 400, .inl (va_cpy X.2.1 T.2.1 0 0 X.1))), (u2, .inl (cI, 400, .inl (va_cpy X.2.2.1 T.2.2.1 0 0 X.1))), (u3, .inl (cI, 400, .inl (va_cpy X.2.2.2 T.2.2.2 0 0 X.1))), (o0, .inr (0, [.ref o1, .ref o2, .ref o3, .int (nI X.1)])), (o1, .inl (cI, 400, .inl X.2.1)), (o2, .inl (cI, 400, .inl X.2.2.1)), (o3, .inl (cI, 400, .inl X.2.2.2))] := hD
  refine lv_aload_n hx hb dX0_copyFrom_51 rfl (lv_at hl 0 rfl) ?_
  refine lv_aload_n hx hb dX0_copyFrom_52 rfl (lv_at hl 1 rfl) ?_
  refine va_get (D := (dC, dI)) (ci := 0) (v := .int (nI X.1)) (C := RX0) (T := TX0) (N := 4) hx hb hts (by decide +kernel) hown hK hP 4 rfl rfl 3 (by decide) (hts (.fieldLink RX0 21 "RevisionTree$Table" "held" "I") (by decide +kernel)) (fun _ h9 => h9) rfl dX0_copyFrom_53 ?_
  refine va_put (D := (dC, dI)) (ci := 0) (v := .int (nI X.1)) (ty := .int) (C := RX0) (T := TX0) (N := 4) hx hb hts (by decide +kernel) tyX0 tyX0_ok nmX0 hown hK hP hD hS 0 rfl rfl 3 (by decide) (hts (.fieldLink RX0 21 "RevisionTree$Table" "held" "I") (by decide +kernel)) (fun _ h9 => h9) rfl (by decide +kernel) rfl rfl (Nat.le_of_ble_eq_true rfl) dX0_copyFrom_56 (fun H locs hP hD hS => ?_)
  have hP : va_P (dC, dI) vwCl [(u0, .inr (0, [.ref u1, .ref u2, .ref u3, .int (nI X.1)])), (u1, .inl (cI, 400, .inl (va_cpy X.2.1 T.2.1 0 0 X.1))), (u2, .inl (cI, 400, .inl (va_cpy X.2.2.1 T.2.2.1 0 0 X.1))), (u3, .inl (cI, 400, .inl (va_cpy X.2.2.2 T.2.2.2 0 0 X.1))), (o0, .inr (0, [.ref o1, .ref o2, .ref o3, .int (nI X.1)])), (o1, .inl (cI, 400, .inl X.2.1)), (o2, .inl (cI, 400, .inl X.2.2.1)), (o3, .inl (cI, 400, .inl X.2.2.2))] H := hP
  have hD : va_D A [(u0, .inr (0, [.ref u1, .ref u2, .ref u3, .int (nI X.1)])), (u1, .inl (cI, 400, .inl (va_cpy X.2.1 T.2.1 0 0 X.1))), (u2, .inl (cI, 400, .inl (va_cpy X.2.2.1 T.2.2.1 0 0 X.1))), (u3, .inl (cI, 400, .inl (va_cpy X.2.2.2 T.2.2.2 0 0 X.1))), (o0, .inr (0, [.ref o1, .ref o2, .ref o3, .int (nI X.1)])), (o1, .inl (cI, 400, .inl X.2.1)), (o2, .inl (cI, 400, .inl X.2.2.1)), (o3, .inl (cI, 400, .inl X.2.2.2))] := hD
  exact W.vret hx hb hr (fun t9 ht9 hW9 => ⟨⟨(X.1, va_cpy X.2.1 T.2.1 0 0 X.1, va_cpy X.2.2.1 T.2.2.1 0 0 X.1, va_cpy X.2.2.2 T.2.2.2 0 0 X.1), rfl, rfl, by show va_P _ _ _ t9.heap; rw [ht9]; exact hP⟩, hS.F ht9⟩) hS.2.2 dX0_copyFrom_59
end
section
set_option maxHeartbeats 4000000 in
set_option maxRecDepth 100000 in
/-- Table(): three rows of 400, nothing held -/
theorem c_Table_init (l : Launch) (dC : Nat → ClassId) (dI : Nat → Nat → Nat) (cI cT : ClassId) (u0 : Nat) (sz : Nat)  : Met l yX0_init wsX0_init ({ frames := 1, cells := 3, slots := 1200, locals := 12 }) (va_Pc [.ref u0] (zPW (dC, dI) vwCl cI cT [(u0, .inr (0, [.null, .null, .null, .int (nI 0)]))] sz)) (va_Qv (fun (_ : Nat × Nat × Nat) => True) (fun u t => va_P (dC, dI) vwCl (wT u0 u.1 u.2.1 u.2.2 cI (0, (fun _ => nI 0), (fun _ => nI 0), (fun _ => nI 0))) t.heap ∧ va_D (va_A [(u0, .inr (0, [.null, .null, .null, .int (nI 0)]))] sz) (wT u0 u.1 u.2.1 u.2.2 cI (0, (fun _ => nI 0), (fun _ => nI 0), (fun _ => nI 0)))) (va_A [(u0, .inr (0, [.null, .null, .null, .int (nI 0)]))] sz)) 3 1200 (va_A [(u0, .inr (0, [.null, .null, .null, .int (nI 0)]))] sz) := by
  refine Met.ofW (cc := cX0_init) (maxL := 1) (ret := none) (by decide) rfl ?_
  intro p e s m args below meth c s₁ B hml hv
  obtain ⟨rfl, hsz, hP, hK, hD0⟩ := hv
  have hx := B.exec
  have hb := B.bytes
  have hr := B.returns
  have hts := atoms_spec (ws := wsX0_init) B.pre
  have hown : s.vm.findClass RX0 = some m.cls := findClass_of_methodNamed B.named
  have hlocks := B.notSynchronized
  have hin : meth.name = "<init>" := (name_of_methodNamed B.named B.method).1
  subst hsz
  have hD := hD0.self (sz := s.heap.size)
  generalize hAe : va_A [(u0, .inr (0, [.null, .null, .null, .int (nI 0)]))] s.heap.size = A at hD ⊢
  have hA : ∀ q : Nat, s.heap.size ≤ q → A q := fun q h => by rw [← hAe]; exact Or.inr h
  have hS : va_S A s.heap s.heap [] := va_S.rf
  have hl := lv_entry ([.ref u0]) (n := 1) (Nat.le_of_ble_eq_true rfl)
  rw [lg_entry_eq]
  generalize (lg_sl ([.ref u0]) ++ List.replicate (1 - (lg_sl ([.ref u0])).length) Slot.unset).toArray = ls at hl ⊢
  have hl : lv_has ls 1 [(0, .ref u0)] := hl
  refine lv_aload_n hx hb dX0_init_0 rfl (lv_at hl 0 rfl) ?_
  refine W.objInit hx hb hown (hts (.methodLink RX0 3 objectInit) (by decide +kernel)) (hts (.instanceMethod objectInit) (by decide +kernel)) (hts _ (List.mem_cons_of_mem _ (List.mem_append_left _ (List.mem_of_getElem? (i := 2) rfl)))) rfl (by rw [hml]; exact hl.1) rfl dX0_init_1 (Nat.le_of_ble_eq_true rfl) (Nat.le_of_ble_eq_true rfl) ?_
  refine W.eq (g2 := F0 m 4 ls []) rfl ?_
  refine lv_aload_n hx hb dX0_init_4 rfl (lv_at hl 0 rfl) ?_
  refine lv_sipush (v := nI 400) hx hb dX0_init_5 (by decide) ?_
  refine va_newa (atype := .int) hx hb (hts (.arrayClass .int) (by decide +kernel)) (ty := .int) rfl hK hP hD hS hA (N' := 400) (a0 := (400, .inl (fun _ => nI 0))) (z0c _) (nI_pos (by decide +kernel)) (nI_clamp (by decide +kernel)) (by decide +kernel) (by decide +kernel) (by decide +kernel) dX0_init_8 (fun q1 cA1 H hK1 hP hD hS => ?_)
  have eA1 : cA1 = cI := Option.some.inj ((show s.vm.findClass _ = some cA1 from (hK1.2 2 _ rfl).2).symm.trans (show s.vm.findClass _ = some cI from (hK1.2 0 _ rfl).2))
  rw [eA1] at hP hD
  have hP : va_P (dC, dI) vwCl [(u0, .inr (0, [.null, .null, .null, .int (nI 0)])), (q1, .inl (cI, 400, .inl (fun _ => nI 0)))] H := hP
  have hD : va_D A [(u0, .inr (0, [.null, .null, .null, .int (nI 0)])), (q1, .inl (cI, 400, .inl (fun _ => nI 0)))] := hD
  refine va_putF (D := (dC, dI)) (ci := 0) (v := .ref q1) (ty := .array .int) (C := RX0) (T := TX0) (N := 4) hx hb hts (by decide +kernel) tyX0 tyX0_ok nmX0 hown hK hP hD hS 0 rfl rfl 0 (by decide) (hts (.fieldLink RX0 9 "RevisionTree$Table" "keys" "[I") (by decide +kernel)) (fun _ h9 => h9) rfl hin rfl (by decide +kernel) rfl rfl (Nat.le_of_ble_eq_true rfl) dX0_init_10 (fun H locs hP hD hS => ?_)
  have hP : va_P (dC, dI) vwCl [(u0, .inr (0, [.ref q1, .null, .null, .int (nI 0)])), (q1, .inl (cI, 400, .inl (fun _ => nI 0)))] H := hP
  have hD : va_D A [(u0, .inr (0, [.ref q1, .null, .null, .int (nI 0)])), (q1, .inl (cI, 400, .inl (fun _ => nI 0)))] := hD
  refine lv_aload_n hx hb dX0_init_13 rfl (lv_at hl 0 rfl) ?_
  refine lv_sipush (v := nI 400) hx hb dX0_init_14 (by decide) ?_
  refine va_newa (atype := .int) hx hb (hts (.arrayClass .int) (by decide +kernel)) (ty := .int) rfl hK hP hD hS hA (N' := 400) (a0 := (400, .inl (fun _ => nI 0))) (z0c _) (nI_pos (by decide +kernel)) (nI_clamp (by decide +kernel)) (by decide +kernel) (by decide +kernel) (by decide +kernel) dX0_init_17 (fun q2 cA2 H hK2 hP hD hS => ?_)
  have eA2 : cA2 = cI := Option.some.inj ((show s.vm.findClass _ = some cA2 from (hK2.2 2 _ rfl).2).symm.trans (show s.vm.findClass _ = some cI from (hK2.2 0 _ rfl).2))
  rw [eA2] at hP hD
  have hP : va_P (dC, dI) vwCl [(u0, .inr (0, [.ref q1, .null, .null, .int (nI 0)])), (q1, .inl (cI, 400, .inl (fun _ => nI 0))), (q2, .inl (cI, 400, .inl (fun _ => nI 0)))] H := hP
  have hD : va_D A [(u0, .inr (0, [.ref q1, .null, .null, .int (nI 0)])), (q1, .inl (cI, 400, .inl (fun _ => nI 0))), (q2, .inl (cI, 400, .inl (fun _ => nI 0)))] := hD
  refine va_putF (D := (dC, dI)) (ci := 0) (v := .ref q2) (ty := .array .int) (C := RX0) (T := TX0) (N := 4) hx hb hts (by decide +kernel) tyX0 tyX0_ok nmX0 hown hK hP hD hS 0 rfl rfl 1 (by decide) (hts (.fieldLink RX0 15 "RevisionTree$Table" "values" "[I") (by decide +kernel)) (fun _ h9 => h9) rfl hin rfl (by decide +kernel) rfl rfl (Nat.le_of_ble_eq_true rfl) dX0_init_19 (fun H locs hP hD hS => ?_)
  have hP : va_P (dC, dI) vwCl [(u0, .inr (0, [.ref q1, .ref q2, .null, .int (nI 0)])), (q1, .inl (cI, 400, .inl (fun _ => nI 0))), (q2, .inl (cI, 400, .inl (fun _ => nI 0)))] H := hP
  have hD : va_D A [(u0, .inr (0, [.ref q1, .ref q2, .null, .int (nI 0)])), (q1, .inl (cI, 400, .inl (fun _ => nI 0))), (q2, .inl (cI, 400, .inl (fun _ => nI 0)))] := hD
  refine lv_aload_n hx hb dX0_init_22 rfl (lv_at hl 0 rfl) ?_
  refine lv_sipush (v := nI 400) hx hb dX0_init_23 (by decide) ?_
  refine va_newa (atype := .int) hx hb (hts (.arrayClass .int) (by decide +kernel)) (ty := .int) rfl hK hP hD hS hA (N' := 400) (a0 := (400, .inl (fun _ => nI 0))) (z0c _) (nI_pos (by decide +kernel)) (nI_clamp (by decide +kernel)) (by decide +kernel) (by decide +kernel) (by decide +kernel) dX0_init_26 (fun q3 cA3 H hK3 hP hD hS => ?_)
  have eA3 : cA3 = cI := Option.some.inj ((show s.vm.findClass _ = some cA3 from (hK3.2 2 _ rfl).2).symm.trans (show s.vm.findClass _ = some cI from (hK3.2 0 _ rfl).2))
  rw [eA3] at hP hD
  have hP : va_P (dC, dI) vwCl [(u0, .inr (0, [.ref q1, .ref q2, .null, .int (nI 0)])), (q1, .inl (cI, 400, .inl (fun _ => nI 0))), (q2, .inl (cI, 400, .inl (fun _ => nI 0))), (q3, .inl (cI, 400, .inl (fun _ => nI 0)))] H := hP
  have hD : va_D A [(u0, .inr (0, [.ref q1, .ref q2, .null, .int (nI 0)])), (q1, .inl (cI, 400, .inl (fun _ => nI 0))), (q2, .inl (cI, 400, .inl (fun _ => nI 0))), (q3, .inl (cI, 400, .inl (fun _ => nI 0)))] := hD
  refine va_putF (D := (dC, dI)) (ci := 0) (v := .ref q3) (ty := .array .int) (C := RX0) (T := TX0) (N := 4) hx hb hts (by decide +kernel) tyX0 tyX0_ok nmX0 hown hK hP hD hS 0 rfl rfl 2 (by decide) (hts (.fieldLink RX0 18 "RevisionTree$Table" "sizes" "[I") (by decide +kernel)) (fun _ h9 => h9) rfl hin rfl (by decide +kernel) rfl rfl (Nat.le_of_ble_eq_true rfl) dX0_init_28 (fun H locs hP hD hS => ?_)
  have hP : va_P (dC, dI) vwCl [(u0, .inr (0, [.ref q1, .ref q2, .ref q3, .int (nI 0)])), (q1, .inl (cI, 400, .inl (fun _ => nI 0))), (q2, .inl (cI, 400, .inl (fun _ => nI 0))), (q3, .inl (cI, 400, .inl (fun _ => nI 0)))] H := hP
  have hD : va_D A [(u0, .inr (0, [.ref q1, .ref q2, .ref q3, .int (nI 0)])), (q1, .inl (cI, 400, .inl (fun _ => nI 0))), (q2, .inl (cI, 400, .inl (fun _ => nI 0))), (q3, .inl (cI, 400, .inl (fun _ => nI 0)))] := hD
  refine lv_aload_n hx hb dX0_init_31 rfl (lv_at hl 0 rfl) ?_
  refine lv_iconst (v := nI 0) hx hb dX0_init_32 (by decide) ?_
  refine va_put (D := (dC, dI)) (ci := 0) (v := .int (nI 0)) (ty := .int) (C := RX0) (T := TX0) (N := 4) hx hb hts (by decide +kernel) tyX0 tyX0_ok nmX0 hown hK hP hD hS 0 rfl rfl 3 (by decide) (hts (.fieldLink RX0 21 "RevisionTree$Table" "held" "I") (by decide +kernel)) (fun _ h9 => h9) rfl (by decide +kernel) rfl rfl (Nat.le_of_ble_eq_true rfl) dX0_init_33 (fun H locs hP hD hS => ?_)
  have hP : va_P (dC, dI) vwCl [(u0, .inr (0, [.ref q1, .ref q2, .ref q3, .int (nI 0)])), (q1, .inl (cI, 400, .inl (fun _ => nI 0))), (q2, .inl (cI, 400, .inl (fun _ => nI 0))), (q3, .inl (cI, 400, .inl (fun _ => nI 0)))] H := hP
  have hD : va_D A [(u0, .inr (0, [.ref q1, .ref q2, .ref q3, .int (nI 0)])), (q1, .inl (cI, 400, .inl (fun _ => nI 0))), (q2, .inl (cI, 400, .inl (fun _ => nI 0))), (q3, .inl (cI, 400, .inl (fun _ => nI 0)))] := hD
  refine W.widen (k := 3) (n := 1200) (by decide +kernel) (by decide +kernel) ?_
  exact W.vret hx hb hr (fun t9 ht9 hW9 => ⟨⟨(q1, q2, q3), rfl, trivial, by show va_P _ _ _ t9.heap; rw [ht9]; exact hP, hD⟩, hS.F ht9⟩) hS.2.2 dX0_init_36
end
section
set_option maxHeartbeats 4000000 in
set_option maxRecDepth 100000 in
/-- enter: a key comes in, or its value and size are written over -/
theorem c_Table_enter (l : Launch) (dC : Nat → ClassId) (dI : Nat → Nat → Nat) (cI cT : ClassId) (u0 u1 u2 u3 : Nat) (T : TB) (k v z : Int32) (sz : Nat) (hok : okT T) : Met l yX0_enter wsX0_enter ({ frames := 2, cells := 0, slots := 0, locals := 41 }) (va_Pc [.ref u0, .int k, .int v, .int z] (zPW (dC, dI) vwCl cI cT (wT u0 u1 u2 u3 cI T) sz)) (va_Qi (fun (r : Int32) (u : TB) => r = (tEnter T k v z).1 ∧ eqT u (tEnter T k v z).2) (fun u t => va_P (dC, dI) vwCl (wT u0 u1 u2 u3 cI u) t.heap) (va_A (wT u0 u1 u2 u3 cI T) sz)) 0 0 (va_A (wT u0 u1 u2 u3 cI T) sz) := by
  refine Met.ofW (cc := cX0_enter) (maxL := 6) (ret := (some .int)) (by decide) rfl ?_
  intro p e s m args below meth c s₁ B hml hv
  obtain ⟨rfl, hsz, hP, hK, hD0⟩ := hv
  have hx := B.exec
  have hb := B.bytes
  have hr := B.returns
  have hts := atoms_spec (ws := wsX0_enter) B.pre
  have hown : s.vm.findClass RX0 = some m.cls := findClass_of_methodNamed B.named
  have hlocks := B.notSynchronized
  subst hsz
  have hD := hD0.self (sz := s.heap.size)
  generalize hAe : va_A (wT u0 u1 u2 u3 cI T) s.heap.size = A at hD ⊢
  have hA : ∀ q : Nat, s.heap.size ≤ q → A q := fun q h => by rw [← hAe]; exact Or.inr h
  have hS : va_S A s.heap s.heap [] := va_S.rf
  have hl := lv_entry ([.ref u0, .int k, .int v, .int z]) (n := 6) (Nat.le_of_ble_eq_true rfl)
  rw [lg_entry_eq]
  generalize (lg_sl ([.ref u0, .int k, .int v, .int z]) ++ List.replicate (6 - (lg_sl ([.ref u0, .int k, .int v, .int z])).length) Slot.unset).toArray = ls at hl ⊢
  have hl : lv_has ls 6 [(0, .ref u0), (1, .int k), (2, .int v), (3, .int z)] := hl
  obtain ⟨hn, hs⟩ := id hok
  have hpl : tPl T k ≤ T.1 := pl_le _ _ _
  refine lv_aload_n hx hb dX0_enter_0 rfl (lv_at hl 0 rfl) ?_
  refine lv_iload_n hx hb dX0_enter_1 rfl (lv_at hl 1 rfl) ?_
  refine zroi (va_runV (As := [.int k]) (rest := []) ⟨hx, hb, hml, hown, hts⟩ (c_Table_placeOf l dC dI cI cT u0 u1 u2 u3 T k s.heap.size hok) (cwV 1 hts gX0_enter_X0_placeOf rfl rfl rfl (by decide +kernel) ⟨Nat.le_of_ble_eq_true rfl, Nat.le_of_ble_eq_true rfl⟩) (zpreV hK hP hD rfl 0 rfl) rfl rfl hl.1 rfl (lv_room (Nat.le_of_ble_eq_true rfl)) dX0_enter_2 ⟨Nat.le_of_ble_eq_true rfl, Nat.le_of_ble_eq_true rfl⟩) hP hS hA (fun H locs hP hS => ?_)
  refine lv_istore (lv' := [(4, .int (nI (tPl T k))), (0, .ref u0), (1, .int k), (2, .int v), (3, .int z)]) hx hb dX0_enter_5 hl (by decide) rfl (fun ls hl => ?_)
  refine lv_aload_n hx hb dX0_enter_7 rfl (lv_at hl 1 rfl) ?_
  refine lv_iload hx hb dX0_enter_8 (lv_at hl 0 rfl) ?_
  refine lv_iload_n hx hb dX0_enter_10 rfl (lv_at hl 2 rfl) ?_
  refine zroi (va_runV (As := [.int (nI (tPl T k)), .int k]) (rest := []) ⟨hx, hb, hml, hown, hts⟩ (c_Table_hasAt l dC dI cI cT u0 u1 u2 u3 T (tPl T k) k H.size hn (by omega)) (cwV 2 hts gX0_enter_X0_hasAt rfl rfl rfl (by decide +kernel) ⟨Nat.le_of_ble_eq_true rfl, Nat.le_of_ble_eq_true rfl⟩) (zpreV hK hP hD rfl 0 rfl) rfl rfl hl.1 rfl (lv_room (Nat.le_of_ble_eq_true rfl)) dX0_enter_11 ⟨Nat.le_of_ble_eq_true rfl, Nat.le_of_ble_eq_true rfl⟩) hP hS hA (fun H locs hP hS => ?_)
  refine zifne (tgt := 21) hx hb dX0_enter_14 (by decide) (fun h_14 => ?_) (fun h_14 => ?_)
  · have hpl4 : tPl T k < 400 := by have := h_14.1; omega
    refine lv_iconst (v := nI 0) hx hb dX0_enter_21 (by decide) ?_
    refine lv_istore (lv' := [(5, .int (nI 0)), (4, .int (nI (tPl T k))), (0, .ref u0), (1, .int k), (2, .int v), (3, .int z)]) hx hb dX0_enter_22 hl (by decide) rfl (fun ls hl => ?_)
    refine lv_iload hx hb dX0_enter_24 (lv_at hl 0 rfl) ?_
    refine lv_if_eq (tgt := 70) hx hb dX0_enter_26 (by decide) (fun h_26 => ?_) (fun h_26 => absurd (by decide) h_26)
    refine lv_aload_n hx hb dX0_enter_70 rfl (lv_at hl 2 rfl) ?_
    refine va_get (D := (dC, dI)) (ci := 0) (v := .ref u2) (C := RX0) (T := TX0) (N := 4) hx hb hts (by decide +kernel) hown hK hP 0 rfl rfl 1 (by decide) (hts (.fieldLink RX0 15 "RevisionTree$Table" "values" "[I") (by decide +kernel)) (fun _ h9 => h9) rfl dX0_enter_71 ?_
    refine lv_iload hx hb dX0_enter_74 (lv_at hl 1 rfl) ?_
    refine lv_iload_n hx hb dX0_enter_76 rfl (lv_at hl 4 rfl) ?_
    refine zwrN hx hb hK hP hD hS 2 0 rfl rfl (j := tPl T k) (by omega) (by decide) dX0_enter_77 (fun H locs hP hD hS => ?_)
    have hP : va_P (dC, dI) vwCl [(u0, .inr (0, [.ref u1, .ref u2, .ref u3, .int (nI T.1)])), (u1, .inl (cI, 400, .inl T.2.1)), (u2, .inl (cI, 400, .inl (upd T.2.2.1 (tPl T k) v))), (u3, .inl (cI, 400, .inl T.2.2.2))] H := hP
    have hD : va_D A [(u0, .inr (0, [.ref u1, .ref u2, .ref u3, .int (nI T.1)])), (u1, .inl (cI, 400, .inl T.2.1)), (u2, .inl (cI, 400, .inl (upd T.2.2.1 (tPl T k) v))), (u3, .inl (cI, 400, .inl T.2.2.2))] := hD
    refine lv_aload_n hx hb dX0_enter_78 rfl (lv_at hl 2 rfl) ?_
    refine va_get (D := (dC, dI)) (ci := 0) (v := .ref u3) (C := RX0) (T := TX0) (N := 4) hx hb hts (by decide +kernel) hown hK hP 0 rfl rfl 2 (by decide) (hts (.fieldLink RX0 18 "RevisionTree$Table" "sizes" "[I") (by decide +kernel)) (fun _ h9 => h9) rfl dX0_enter_79 ?_
    refine lv_iload hx hb dX0_enter_82 (lv_at hl 1 rfl) ?_
    refine lv_iload_n hx hb dX0_enter_84 rfl (lv_at hl 5 rfl) ?_
    refine zwrN hx hb hK hP hD hS 3 0 rfl rfl (j := tPl T k) (by omega) (by decide) dX0_enter_85 (fun H locs hP hD hS => ?_)
    have hP : va_P (dC, dI) vwCl [(u0, .inr (0, [.ref u1, .ref u2, .ref u3, .int (nI T.1)])), (u1, .inl (cI, 400, .inl T.2.1)), (u2, .inl (cI, 400, .inl (upd T.2.2.1 (tPl T k) v))), (u3, .inl (cI, 400, .inl (upd T.2.2.2 (tPl T k) z)))] H := hP
    have hD : va_D A [(u0, .inr (0, [.ref u1, .ref u2, .ref u3, .int (nI T.1)])), (u1, .inl (cI, 400, .inl T.2.1)), (u2, .inl (cI, 400, .inl (upd T.2.2.1 (tPl T k) v))), (u3, .inl (cI, 400, .inl (upd T.2.2.2 (tPl T k) z)))] := hD
    refine lv_iload hx hb dX0_enter_86 (lv_at hl 0 rfl) ?_
    refine lv_if_eq (tgt := 95) hx hb dX0_enter_88 (by decide) (fun h_88 => ?_) (fun h_88 => absurd (by decide) h_88)
    refine lv_iconst (v := nI 0) hx hb dX0_enter_95 (by decide) ?_
    exact W.iret (v := nI 0) hx hb hr (fun t9 ht9 hW9 => ⟨⟨_, (T.1, T.2.1, upd T.2.2.1 (tPl T k) v, upd T.2.2.2 (tPl T k) z), rfl, by rw [tEnter_h v z h_14]; exact ⟨rfl, eqT_rf⟩, by show va_P _ _ _ t9.heap; rw [ht9]; exact hP⟩, hS.F ht9⟩) hS.2.2 dX0_enter_96
  · refine lv_iconst (v := nI 1) hx hb dX0_enter_17 (by decide) ?_
    refine lv_goto (tgt := 22) hx hb dX0_enter_18 (by decide) ?_
    refine lv_istore (lv' := [(5, .int (nI 1)), (4, .int (nI (tPl T k))), (0, .ref u0), (1, .int k), (2, .int v), (3, .int z)]) hx hb dX0_enter_22 hl (by decide) rfl (fun ls hl => ?_)
    refine lv_iload hx hb dX0_enter_24 (lv_at hl 0 rfl) ?_
    refine lv_if_eq (tgt := 70) hx hb dX0_enter_26 (by decide) (fun h_26 => absurd h_26 (by decide)) (fun h_26 => ?_)
    refine lv_aload_n hx hb dX0_enter_29 rfl (lv_at hl 2 rfl) ?_
    refine va_get (D := (dC, dI)) (ci := 0) (v := .int (nI T.1)) (C := RX0) (T := TX0) (N := 4) hx hb hts (by decide +kernel) hown hK hP 0 rfl rfl 3 (by decide) (hts (.fieldLink RX0 21 "RevisionTree$Table" "held" "I") (by decide +kernel)) (fun _ h9 => h9) rfl dX0_enter_30 ?_
    refine lv_sipush (v := nI 400) hx hb dX0_enter_33 (by decide) ?_
    refine zlt (tgt := 42) hx hb dX0_enter_36 (by decide) (by omega) (by omega) (fun h_36 => ?_) (fun h_36 => ?_)
    · have hpl4 : tPl T k < 400 := by omega
      refine lv_aload_n hx hb dX0_enter_42 rfl (lv_at hl 2 rfl) ?_
      refine lv_iload hx hb dX0_enter_43 (lv_at hl 1 rfl) ?_
      refine lv_iload hx hb dX0_enter_45 (lv_at hl 1 rfl) ?_
      refine lv_iconst (v := nI 1) hx hb dX0_enter_47 (by decide) ?_
      refine lv_iadd hx hb dX0_enter_48 ?_
      refine zt (y := nI ((tPl T k) + 1)) (nI_add _ _) ?_
      refine zwrv (w1 := fun u : TB => wT u0 u1 u2 u3 cI u) (va_runV (As := [.int (nI (tPl T k)), .int (nI ((tPl T k) + 1))]) (rest := []) ⟨hx, hb, hml, hown, hts⟩ (c_Table_shift l dC dI cI cT u0 u1 u2 u3 T (tPl T k) (tPl T k + 1) H.size hn (by omega) (by omega) (by omega)) (cwV 2 hts gX0_enter_X0_shift rfl rfl rfl (by decide +kernel) ⟨Nat.le_of_ble_eq_true rfl, Nat.le_of_ble_eq_true rfl⟩) (zpreV hK (hP.sub [0, 1, 2, 3] rfl) (hD.sub [0, 1, 2, 3] (by decide) rfl) rfl 0 rfl) rfl rfl hl.1 rfl (lv_room (Nat.le_of_ble_eq_true rfl)) dX0_enter_49 ⟨Nat.le_of_ble_eq_true rfl, Nat.le_of_ble_eq_true rfl⟩) hP hD hS hA [0, 1, 2, 3] rfl (fun _ => rfl) (fun _ => rfl) (fun u H locs hw hP hD hS => ?_)
      subst hw
      have hP : va_P (dC, dI) vwCl [(u0, .inr (0, [.ref u1, .ref u2, .ref u3, .int (nI T.1)])), (u1, .inl (cI, 400, .inl (va_cpy T.2.1 T.2.1 (tPl T k) (tPl T k + 1) (T.1 - (tPl T k))))), (u2, .inl (cI, 400, .inl (va_cpy T.2.2.1 T.2.2.1 (tPl T k) (tPl T k + 1) (T.1 - (tPl T k))))), (u3, .inl (cI, 400, .inl (va_cpy T.2.2.2 T.2.2.2 (tPl T k) (tPl T k + 1) (T.1 - (tPl T k)))))] H := hP
      have hD : va_D A [(u0, .inr (0, [.ref u1, .ref u2, .ref u3, .int (nI T.1)])), (u1, .inl (cI, 400, .inl (va_cpy T.2.1 T.2.1 (tPl T k) (tPl T k + 1) (T.1 - (tPl T k))))), (u2, .inl (cI, 400, .inl (va_cpy T.2.2.1 T.2.2.1 (tPl T k) (tPl T k + 1) (T.1 - (tPl T k))))), (u3, .inl (cI, 400, .inl (va_cpy T.2.2.2 T.2.2.2 (tPl T k) (tPl T k + 1) (T.1 - (tPl T k)))))] := hD
      refine lv_aload_n hx hb dX0_enter_52 rfl (lv_at hl 2 rfl) ?_
      refine lv_dup hx hb dX0_enter_53 rfl ?_
      refine va_get (D := (dC, dI)) (ci := 0) (v := .int (nI T.1)) (C := RX0) (T := TX0) (N := 4) hx hb hts (by decide +kernel) hown hK hP 0 rfl rfl 3 (by decide) (hts (.fieldLink RX0 21 "RevisionTree$Table" "held" "I") (by decide +kernel)) (fun _ h9 => h9) rfl dX0_enter_54 ?_
      refine lv_iconst (v := nI 1) hx hb dX0_enter_57 (by decide) ?_
      refine lv_iadd hx hb dX0_enter_58 ?_
      refine zt (y := nI (T.1 + 1)) (nI_add _ _) ?_
      refine va_put (D := (dC, dI)) (ci := 0) (v := .int (nI (T.1 + 1))) (ty := .int) (C := RX0) (T := TX0) (N := 4) hx hb hts (by decide +kernel) tyX0 tyX0_ok nmX0 hown hK hP hD hS 0 rfl rfl 3 (by decide) (hts (.fieldLink RX0 21 "RevisionTree$Table" "held" "I") (by decide +kernel)) (fun _ h9 => h9) rfl (by decide +kernel) rfl rfl (Nat.le_of_ble_eq_true rfl) dX0_enter_59 (fun H locs hP hD hS => ?_)
      have hP : va_P (dC, dI) vwCl [(u0, .inr (0, [.ref u1, .ref u2, .ref u3, .int (nI (T.1 + 1))])), (u1, .inl (cI, 400, .inl (va_cpy T.2.1 T.2.1 (tPl T k) (tPl T k + 1) (T.1 - (tPl T k))))), (u2, .inl (cI, 400, .inl (va_cpy T.2.2.1 T.2.2.1 (tPl T k) (tPl T k + 1) (T.1 - (tPl T k))))), (u3, .inl (cI, 400, .inl (va_cpy T.2.2.2 T.2.2.2 (tPl T k) (tPl T k + 1) (T.1 - (tPl T k)))))] H := hP
      have hD : va_D A [(u0, .inr (0, [.ref u1, .ref u2, .ref u3, .int (nI (T.1 + 1))])), (u1, .inl (cI, 400, .inl (va_cpy T.2.1 T.2.1 (tPl T k) (tPl T k + 1) (T.1 - (tPl T k))))), (u2, .inl (cI, 400, .inl (va_cpy T.2.2.1 T.2.2.1 (tPl T k) (tPl T k + 1) (T.1 - (tPl T k))))), (u3, .inl (cI, 400, .inl (va_cpy T.2.2.2 T.2.2.2 (tPl T k) (tPl T k + 1) (T.1 - (tPl T k)))))] := hD
      refine lv_aload_n hx hb dX0_enter_62 rfl (lv_at hl 2 rfl) ?_
      refine va_get (D := (dC, dI)) (ci := 0) (v := .ref u1) (C := RX0) (T := TX0) (N := 4) hx hb hts (by decide +kernel) hown hK hP 0 rfl rfl 0 (by decide) (hts (.fieldLink RX0 9 "RevisionTree$Table" "keys" "[I") (by decide +kernel)) (fun _ h9 => h9) rfl dX0_enter_63 ?_
      refine lv_iload hx hb dX0_enter_66 (lv_at hl 1 rfl) ?_
      refine lv_iload_n hx hb dX0_enter_68 rfl (lv_at hl 3 rfl) ?_
      refine zwrN hx hb hK hP hD hS 1 0 rfl rfl (j := tPl T k) (by omega) (by decide) dX0_enter_69 (fun H locs hP hD hS => ?_)
      have hP : va_P (dC, dI) vwCl [(u0, .inr (0, [.ref u1, .ref u2, .ref u3, .int (nI (T.1 + 1))])), (u1, .inl (cI, 400, .inl (upd (va_cpy T.2.1 T.2.1 (tPl T k) (tPl T k + 1) (T.1 - (tPl T k))) (tPl T k) k))), (u2, .inl (cI, 400, .inl (va_cpy T.2.2.1 T.2.2.1 (tPl T k) (tPl T k + 1) (T.1 - (tPl T k))))), (u3, .inl (cI, 400, .inl (va_cpy T.2.2.2 T.2.2.2 (tPl T k) (tPl T k + 1) (T.1 - (tPl T k)))))] H := hP
      have hD : va_D A [(u0, .inr (0, [.ref u1, .ref u2, .ref u3, .int (nI (T.1 + 1))])), (u1, .inl (cI, 400, .inl (upd (va_cpy T.2.1 T.2.1 (tPl T k) (tPl T k + 1) (T.1 - (tPl T k))) (tPl T k) k))), (u2, .inl (cI, 400, .inl (va_cpy T.2.2.1 T.2.2.1 (tPl T k) (tPl T k + 1) (T.1 - (tPl T k))))), (u3, .inl (cI, 400, .inl (va_cpy T.2.2.2 T.2.2.2 (tPl T k) (tPl T k + 1) (T.1 - (tPl T k)))))] := hD
      refine lv_aload_n hx hb dX0_enter_70 rfl (lv_at hl 2 rfl) ?_
      refine va_get (D := (dC, dI)) (ci := 0) (v := .ref u2) (C := RX0) (T := TX0) (N := 4) hx hb hts (by decide +kernel) hown hK hP 0 rfl rfl 1 (by decide) (hts (.fieldLink RX0 15 "RevisionTree$Table" "values" "[I") (by decide +kernel)) (fun _ h9 => h9) rfl dX0_enter_71 ?_
      refine lv_iload hx hb dX0_enter_74 (lv_at hl 1 rfl) ?_
      refine lv_iload_n hx hb dX0_enter_76 rfl (lv_at hl 4 rfl) ?_
      refine zwrN hx hb hK hP hD hS 2 0 rfl rfl (j := tPl T k) (by omega) (by decide) dX0_enter_77 (fun H locs hP hD hS => ?_)
      have hP : va_P (dC, dI) vwCl [(u0, .inr (0, [.ref u1, .ref u2, .ref u3, .int (nI (T.1 + 1))])), (u1, .inl (cI, 400, .inl (upd (va_cpy T.2.1 T.2.1 (tPl T k) (tPl T k + 1) (T.1 - (tPl T k))) (tPl T k) k))), (u2, .inl (cI, 400, .inl (upd (va_cpy T.2.2.1 T.2.2.1 (tPl T k) (tPl T k + 1) (T.1 - (tPl T k))) (tPl T k) v))), (u3, .inl (cI, 400, .inl (va_cpy T.2.2.2 T.2.2.2 (tPl T k) (tPl T k + 1) (T.1 - (tPl T k)))))] H := hP
      have hD : va_D A [(u0, .inr (0, [.ref u1, .ref u2, .ref u3, .int (nI (T.1 + 1))])), (u1, .inl (cI, 400, .inl (upd (va_cpy T.2.1 T.2.1 (tPl T k) (tPl T k + 1) (T.1 - (tPl T k))) (tPl T k) k))), (u2, .inl (cI, 400, .inl (upd (va_cpy T.2.2.1 T.2.2.1 (tPl T k) (tPl T k + 1) (T.1 - (tPl T k))) (tPl T k) v))), (u3, .inl (cI, 400, .inl (va_cpy T.2.2.2 T.2.2.2 (tPl T k) (tPl T k + 1) (T.1 - (tPl T k)))))] := hD
      refine lv_aload_n hx hb dX0_enter_78 rfl (lv_at hl 2 rfl) ?_
      refine va_get (D := (dC, dI)) (ci := 0) (v := .ref u3) (C := RX0) (T := TX0) (N := 4) hx hb hts (by decide +kernel) hown hK hP 0 rfl rfl 2 (by decide) (hts (.fieldLink RX0 18 "RevisionTree$Table" "sizes" "[I") (by decide +kernel)) (fun _ h9 => h9) rfl dX0_enter_79 ?_
      refine lv_iload hx hb dX0_enter_82 (lv_at hl 1 rfl) ?_
      refine lv_iload_n hx hb dX0_enter_84 rfl (lv_at hl 5 rfl) ?_
      refine zwrN hx hb hK hP hD hS 3 0 rfl rfl (j := tPl T k) (by omega) (by decide) dX0_enter_85 (fun H locs hP hD hS => ?_)
      have hP : va_P (dC, dI) vwCl [(u0, .inr (0, [.ref u1, .ref u2, .ref u3, .int (nI (T.1 + 1))])), (u1, .inl (cI, 400, .inl (upd (va_cpy T.2.1 T.2.1 (tPl T k) (tPl T k + 1) (T.1 - (tPl T k))) (tPl T k) k))), (u2, .inl (cI, 400, .inl (upd (va_cpy T.2.2.1 T.2.2.1 (tPl T k) (tPl T k + 1) (T.1 - (tPl T k))) (tPl T k) v))), (u3, .inl (cI, 400, .inl (upd (va_cpy T.2.2.2 T.2.2.2 (tPl T k) (tPl T k + 1) (T.1 - (tPl T k))) (tPl T k) z)))] H := hP
      have hD : va_D A [(u0, .inr (0, [.ref u1, .ref u2, .ref u3, .int (nI (T.1 + 1))])), (u1, .inl (cI, 400, .inl (upd (va_cpy T.2.1 T.2.1 (tPl T k) (tPl T k + 1) (T.1 - (tPl T k))) (tPl T k) k))), (u2, .inl (cI, 400, .inl (upd (va_cpy T.2.2.1 T.2.2.1 (tPl T k) (tPl T k + 1) (T.1 - (tPl T k))) (tPl T k) v))), (u3, .inl (cI, 400, .inl (upd (va_cpy T.2.2.2 T.2.2.2 (tPl T k) (tPl T k + 1) (T.1 - (tPl T k))) (tPl T k) z)))] := hD
      refine lv_iload hx hb dX0_enter_86 (lv_at hl 0 rfl) ?_
      refine lv_if_eq (tgt := 95) hx hb dX0_enter_88 (by decide) (fun h_88 => absurd h_88 (by decide)) (fun h_88 => ?_)
      refine lv_iconst (v := nI 1) hx hb dX0_enter_91 (by decide) ?_
      refine lv_goto (tgt := 96) hx hb dX0_enter_92 (by decide) ?_
      exact W.iret (v := nI 1) hx hb hr (fun t9 ht9 hW9 => ⟨⟨_, (T.1 + 1, upd (va_cpy T.2.1 T.2.1 (tPl T k) (tPl T k + 1) (T.1 - (tPl T k))) (tPl T k) k, upd (va_cpy T.2.2.1 T.2.2.1 (tPl T k) (tPl T k + 1) (T.1 - (tPl T k))) (tPl T k) v, upd (va_cpy T.2.2.2 T.2.2.2 (tPl T k) (tPl T k + 1) (T.1 - (tPl T k))) (tPl T k) z), rfl, by rw [tEnter_n v z h_14 (by omega)]; exact ⟨rfl, rfl, cpy_up hpl, cpy_up hpl, cpy_up hpl⟩, by show va_P _ _ _ t9.heap; rw [ht9]; exact hP⟩, hS.F ht9⟩) hS.2.2 dX0_enter_96
    · refine lv_bipush (v := (-3)) hx hb dX0_enter_39 (by decide) ?_
      exact W.iret (v := (-3)) hx hb hr (fun t9 ht9 hW9 => ⟨⟨_, T, rfl, by rw [tEnter_f v z h_14 h_36]; exact ⟨rfl, eqT_rf⟩, by show va_P _ _ _ t9.heap; rw [ht9]; exact hP⟩, hS.F ht9⟩) hS.2.2 dX0_enter_41
set_option maxHeartbeats 4000000 in
set_option maxRecDepth 100000 in
/-- drop: a key goes -/
theorem c_Table_drop (l : Launch) (dC : Nat → ClassId) (dI : Nat → Nat → Nat) (cI cT : ClassId) (u0 u1 u2 u3 : Nat) (T : TB) (k : Int32) (sz : Nat) (hok : okT T) : Met l yX0_drop wsX0_drop ({ frames := 2, cells := 0, slots := 0, locals := 41 }) (va_Pc [.ref u0, .int k] (zPW (dC, dI) vwCl cI cT (wT u0 u1 u2 u3 cI T) sz)) (va_Qi (fun (r : Int32) (u : TB) => r = bz (tHas T k) ∧ eqT u (tDrop T k)) (fun u t => va_P (dC, dI) vwCl (wT u0 u1 u2 u3 cI u) t.heap) (va_A (wT u0 u1 u2 u3 cI T) sz)) 0 0 (va_A (wT u0 u1 u2 u3 cI T) sz) := by
  refine Met.ofW (cc := cX0_drop) (maxL := 3) (ret := (some .boolean)) (by decide) rfl ?_
  intro p e s m args below meth c s₁ B hml hv
  obtain ⟨rfl, hsz, hP, hK, hD0⟩ := hv
  have hx := B.exec
  have hb := B.bytes
  have hr := B.returns
  have hts := atoms_spec (ws := wsX0_drop) B.pre
  have hown : s.vm.findClass RX0 = some m.cls := findClass_of_methodNamed B.named
  have hlocks := B.notSynchronized
  subst hsz
  have hD := hD0.self (sz := s.heap.size)
  generalize hAe : va_A (wT u0 u1 u2 u3 cI T) s.heap.size = A at hD ⊢
  have hA : ∀ q : Nat, s.heap.size ≤ q → A q := fun q h => by rw [← hAe]; exact Or.inr h
  have hS : va_S A s.heap s.heap [] := va_S.rf
  have hl := lv_entry ([.ref u0, .int k]) (n := 3) (Nat.le_of_ble_eq_true rfl)
  rw [lg_entry_eq]
  generalize (lg_sl ([.ref u0, .int k]) ++ List.replicate (3 - (lg_sl ([.ref u0, .int k])).length) Slot.unset).toArray = ls at hl ⊢
  have hl : lv_has ls 3 [(0, .ref u0), (1, .int k)] := hl
  obtain ⟨hn, hs⟩ := id hok
  have hpl : tPl T k ≤ T.1 := pl_le _ _ _
  refine lv_aload_n hx hb dX0_drop_0 rfl (lv_at hl 0 rfl) ?_
  refine lv_iload_n hx hb dX0_drop_1 rfl (lv_at hl 1 rfl) ?_
  refine zroi (va_runV (As := [.int k]) (rest := []) ⟨hx, hb, hml, hown, hts⟩ (c_Table_placeOf l dC dI cI cT u0 u1 u2 u3 T k s.heap.size hok) (cwV 1 hts gX0_drop_X0_placeOf rfl rfl rfl (by decide +kernel) ⟨Nat.le_of_ble_eq_true rfl, Nat.le_of_ble_eq_true rfl⟩) (zpreV hK hP hD rfl 0 rfl) rfl rfl hl.1 rfl (lv_room (Nat.le_of_ble_eq_true rfl)) dX0_drop_2 ⟨Nat.le_of_ble_eq_true rfl, Nat.le_of_ble_eq_true rfl⟩) hP hS hA (fun H locs hP hS => ?_)
  refine lv_istore_n (lv' := [(2, .int (nI (tPl T k))), (0, .ref u0), (1, .int k)]) hx hb dX0_drop_5 rfl hl (by decide) rfl (fun ls hl => ?_)
  refine lv_aload_n hx hb dX0_drop_6 rfl (lv_at hl 1 rfl) ?_
  refine lv_iload_n hx hb dX0_drop_7 rfl (lv_at hl 0 rfl) ?_
  refine lv_iload_n hx hb dX0_drop_8 rfl (lv_at hl 2 rfl) ?_
  refine zroi (va_runV (As := [.int (nI (tPl T k)), .int k]) (rest := []) ⟨hx, hb, hml, hown, hts⟩ (c_Table_hasAt l dC dI cI cT u0 u1 u2 u3 T (tPl T k) k H.size hn (by omega)) (cwV 2 hts gX0_drop_X0_hasAt rfl rfl rfl (by decide +kernel) ⟨Nat.le_of_ble_eq_true rfl, Nat.le_of_ble_eq_true rfl⟩) (zpreV hK hP hD rfl 0 rfl) rfl rfl hl.1 rfl (lv_room (Nat.le_of_ble_eq_true rfl)) dX0_drop_9 ⟨Nat.le_of_ble_eq_true rfl, Nat.le_of_ble_eq_true rfl⟩) hP hS hA (fun H locs hP hS => ?_)
  refine zifne (tgt := 17) hx hb dX0_drop_12 (by decide) (fun h_12 => ?_) (fun h_12 => ?_)
  · have hlt : tPl T k < T.1 := h_12.1
    refine lv_aload_n hx hb dX0_drop_17 rfl (lv_at hl 1 rfl) ?_
    refine lv_iload_n hx hb dX0_drop_18 rfl (lv_at hl 0 rfl) ?_
    refine lv_iconst (v := nI 1) hx hb dX0_drop_19 (by decide) ?_
    refine lv_iadd hx hb dX0_drop_20 ?_
    refine zt (y := nI ((tPl T k) + 1)) (nI_add _ _) ?_
    refine lv_iload_n hx hb dX0_drop_21 rfl (lv_at hl 0 rfl) ?_
    refine zwrv (w1 := fun u : TB => wT u0 u1 u2 u3 cI u) (va_runV (As := [.int (nI ((tPl T k) + 1)), .int (nI (tPl T k))]) (rest := []) ⟨hx, hb, hml, hown, hts⟩ (c_Table_shift l dC dI cI cT u0 u1 u2 u3 T (tPl T k + 1) (tPl T k) H.size hn (by omega) (by omega) (by omega)) (cwV 2 hts gX0_drop_X0_shift rfl rfl rfl (by decide +kernel) ⟨Nat.le_of_ble_eq_true rfl, Nat.le_of_ble_eq_true rfl⟩) (zpreV hK (hP.sub [0, 1, 2, 3] rfl) (hD.sub [0, 1, 2, 3] (by decide) rfl) rfl 0 rfl) rfl rfl hl.1 rfl (lv_room (Nat.le_of_ble_eq_true rfl)) dX0_drop_22 ⟨Nat.le_of_ble_eq_true rfl, Nat.le_of_ble_eq_true rfl⟩) hP hD hS hA [0, 1, 2, 3] rfl (fun _ => rfl) (fun _ => rfl) (fun u H locs hw hP hD hS => ?_)
    subst hw
    have hP : va_P (dC, dI) vwCl [(u0, .inr (0, [.ref u1, .ref u2, .ref u3, .int (nI T.1)])), (u1, .inl (cI, 400, .inl (va_cpy T.2.1 T.2.1 (tPl T k + 1) (tPl T k) (T.1 - (tPl T k + 1))))), (u2, .inl (cI, 400, .inl (va_cpy T.2.2.1 T.2.2.1 (tPl T k + 1) (tPl T k) (T.1 - (tPl T k + 1))))), (u3, .inl (cI, 400, .inl (va_cpy T.2.2.2 T.2.2.2 (tPl T k + 1) (tPl T k) (T.1 - (tPl T k + 1)))))] H := hP
    have hD : va_D A [(u0, .inr (0, [.ref u1, .ref u2, .ref u3, .int (nI T.1)])), (u1, .inl (cI, 400, .inl (va_cpy T.2.1 T.2.1 (tPl T k + 1) (tPl T k) (T.1 - (tPl T k + 1))))), (u2, .inl (cI, 400, .inl (va_cpy T.2.2.1 T.2.2.1 (tPl T k + 1) (tPl T k) (T.1 - (tPl T k + 1))))), (u3, .inl (cI, 400, .inl (va_cpy T.2.2.2 T.2.2.2 (tPl T k + 1) (tPl T k) (T.1 - (tPl T k + 1)))))] := hD
    refine lv_aload_n hx hb dX0_drop_25 rfl (lv_at hl 1 rfl) ?_
    refine lv_dup hx hb dX0_drop_26 rfl ?_
    refine va_get (D := (dC, dI)) (ci := 0) (v := .int (nI T.1)) (C := RX0) (T := TX0) (N := 4) hx hb hts (by decide +kernel) hown hK hP 0 rfl rfl 3 (by decide) (hts (.fieldLink RX0 21 "RevisionTree$Table" "held" "I") (by decide +kernel)) (fun _ h9 => h9) rfl dX0_drop_27 ?_
    refine lv_iconst (v := nI 1) hx hb dX0_drop_30 (by decide) ?_
    refine lv_isub hx hb dX0_drop_31 ?_
    refine zt (y := nI (T.1 - 1)) (pk_sub (by omega)) ?_
    refine va_put (D := (dC, dI)) (ci := 0) (v := .int (nI (T.1 - 1))) (ty := .int) (C := RX0) (T := TX0) (N := 4) hx hb hts (by decide +kernel) tyX0 tyX0_ok nmX0 hown hK hP hD hS 0 rfl rfl 3 (by decide) (hts (.fieldLink RX0 21 "RevisionTree$Table" "held" "I") (by decide +kernel)) (fun _ h9 => h9) rfl (by decide +kernel) rfl rfl (Nat.le_of_ble_eq_true rfl) dX0_drop_32 (fun H locs hP hD hS => ?_)
    have hP : va_P (dC, dI) vwCl [(u0, .inr (0, [.ref u1, .ref u2, .ref u3, .int (nI (T.1 - 1))])), (u1, .inl (cI, 400, .inl (va_cpy T.2.1 T.2.1 (tPl T k + 1) (tPl T k) (T.1 - (tPl T k + 1))))), (u2, .inl (cI, 400, .inl (va_cpy T.2.2.1 T.2.2.1 (tPl T k + 1) (tPl T k) (T.1 - (tPl T k + 1))))), (u3, .inl (cI, 400, .inl (va_cpy T.2.2.2 T.2.2.2 (tPl T k + 1) (tPl T k) (T.1 - (tPl T k + 1)))))] H := hP
    have hD : va_D A [(u0, .inr (0, [.ref u1, .ref u2, .ref u3, .int (nI (T.1 - 1))])), (u1, .inl (cI, 400, .inl (va_cpy T.2.1 T.2.1 (tPl T k + 1) (tPl T k) (T.1 - (tPl T k + 1))))), (u2, .inl (cI, 400, .inl (va_cpy T.2.2.1 T.2.2.1 (tPl T k + 1) (tPl T k) (T.1 - (tPl T k + 1))))), (u3, .inl (cI, 400, .inl (va_cpy T.2.2.2 T.2.2.2 (tPl T k + 1) (tPl T k) (T.1 - (tPl T k + 1)))))] := hD
    refine lv_iconst (v := nI 1) hx hb dX0_drop_35 (by decide) ?_
    exact W.zret (v := nI 1) hx hb hr rfl (fun t9 ht9 hW9 => ⟨⟨_, (T.1 - 1, va_cpy T.2.1 T.2.1 (tPl T k + 1) (tPl T k) (T.1 - (tPl T k + 1)), va_cpy T.2.2.1 T.2.2.1 (tPl T k + 1) (tPl T k) (T.1 - (tPl T k + 1)), va_cpy T.2.2.2 T.2.2.2 (tPl T k + 1) (tPl T k) (T.1 - (tPl T k + 1))), rfl, ⟨(bz_t h_12).symm, by rw [tDrop_h h_12]; exact ⟨rfl, cpy_dn h_12.1, cpy_dn h_12.1, cpy_dn h_12.1⟩⟩, by show va_P _ _ _ t9.heap; rw [ht9]; exact hP⟩, hS.F ht9⟩) hS.2.2 dX0_drop_36
  · refine lv_iconst (v := nI 0) hx hb dX0_drop_15 (by decide) ?_
    exact W.zret (v := nI 0) hx hb hr rfl (fun t9 ht9 hW9 => ⟨⟨_, T, rfl, ⟨(bz_f h_12).symm, by rw [tDrop_n h_12]; exact eqT_rf⟩, by show va_P _ _ _ t9.heap; rw [ht9]; exact hP⟩, hS.F ht9⟩) hS.2.2 dX0_drop_16
end
section
set_option maxHeartbeats 4000000 in
set_option maxRecDepth 100000 in
/-- sizeInRow -/
theorem c_Tree_sizeInRow (l : Launch) (dC : Nat → ClassId) (dI : Nat → Nat → Nat) (cI cT : ClassId) (v : Int32) (i : Nat) (sz : Nat) (hi : i ≤ 1000) : Met l yX1_sizeInRow wsX1_sizeInRow ({ frames := 0, cells := 0, slots := 0, locals := 0 }) (va_Pc [.int v, .int (nI i)] (zPW (dC, dI) vwCl cI cT [] sz)) (zQi sz (zsz v i)) 0 0 (zfr sz) := by
  refine Met.ofW (cc := cX1_sizeInRow) (maxL := 2) (ret := (some .int)) (by decide) rfl ?_
  intro p e s m args below meth c s₁ B hml hv
  obtain ⟨rfl, hsz, hP, hK, hD0⟩ := hv
  have hx := B.exec
  have hb := B.bytes
  have hr := B.returns
  have hts := atoms_spec (ws := wsX1_sizeInRow) B.pre
  have hown : s.vm.findClass RX1 = some m.cls := findClass_of_methodNamed B.named
  have hlocks := B.notSynchronized
  subst hsz
  have hA : ∀ q : Nat, s.heap.size ≤ q → (fun q : Nat => s.heap.size ≤ q) q := fun _ h => h
  have hS : va_S (fun q : Nat => s.heap.size ≤ q) s.heap s.heap [] := va_S.rf
  have hD := hD0
  have hl := lv_entry ([.int v, .int (nI i)]) (n := 2) (Nat.le_of_ble_eq_true rfl)
  rw [lg_entry_eq]
  generalize (lg_sl ([.int v, .int (nI i)]) ++ List.replicate (2 - (lg_sl ([.int v, .int (nI i)])).length) Slot.unset).toArray = ls at hl ⊢
  have hl : lv_has ls 2 [(0, .int v), (1, .int (nI i))] := hl
  refine lv_iload_n hx hb dX1_sizeInRow_0 rfl (lv_at hl 1 rfl) ?_
  refine lv_iconst (v := nI 2) hx hb dX1_sizeInRow_1 (by decide) ?_
  refine lv_irem hx hb dX1_sizeInRow_2 (by decide) ?_
  refine zt (y := nI (i % 2)) (pk_rem (by omega) (by omega) (by omega)) ?_
  refine lv_if_ne (tgt := 10) hx hb dX1_sizeInRow_3 (by decide) (fun h_3 => ?_) (fun h_3 => ?_)
  · refine lv_iload_n hx hb dX1_sizeInRow_10 rfl (lv_at hl 0 rfl) ?_
    refine lv_bipush (v := nI 7) hx hb dX1_sizeInRow_11 (by decide) ?_
    refine lv_iload_n hx hb dX1_sizeInRow_13 rfl (lv_at hl 1 rfl) ?_
    refine lv_imul hx hb dX1_sizeInRow_14 ?_
    refine zt (y := nI (7 * i)) (pk_mul _ _) ?_
    refine lv_iadd hx hb dX1_sizeInRow_15 ?_
    refine lv_bipush (v := nI 127) hx hb dX1_sizeInRow_16 (by decide) ?_
    refine lv_iand hx hb dX1_sizeInRow_18 ?_
    exact W.iret (v := (v + (nI (7 * i))) &&& (nI 127)) hx hb hr (fun t9 ht9 hW9 => ⟨⟨_, (), rfl, (if_neg (fun q => h_3 (show nI (i % 2) = nI 0 by rw [q]))).symm, trivial⟩, hS.F ht9⟩) hS.2.2 dX1_sizeInRow_19
  · refine lv_iconst (v := nI 0) hx hb dX1_sizeInRow_6 (by decide) ?_
    refine lv_goto (tgt := 19) hx hb dX1_sizeInRow_7 (by decide) ?_
    exact W.iret (v := nI 0) hx hb hr (fun t9 ht9 hW9 => ⟨⟨_, (), rfl, (show nI 0 = zsz v i from (if_pos ((nI_eq (by omega) (by omega)).mp (show nI (i % 2) = nI 0 from h_3))).symm), trivial⟩, hS.F ht9⟩) hS.2.2 dX1_sizeInRow_19
set_option maxHeartbeats 4000000 in
set_option maxRecDepth 100000 in
/-- Math.floorMod(n, 3) of a number not below 0 -/
theorem c_floorMod (l : Launch) (dC : Nat → ClassId) (dI : Nat → Nat → Nat) (cI cT : ClassId) (n : Nat) (sz : Nat) (hn : n < 1000000) : Met l yJ9_floorMod_7cf53 wsJ9_floorMod_7cf53 ({ frames := 0, cells := 0, slots := 0, locals := 0 }) (va_Pc [.int (nI n), .int (nI 3)] (zPW (dC, dI) vwCl cI cT [] sz)) (zQi sz (nI (n % 3))) 0 0 (zfr sz) := by
  refine va_MetF (cc := cJ9_floorMod_7cf53) (maxL := 3) (ret := (some .int)) (by decide +kernel) rfl ?_
  intro p e s m args below meth c s₁ B hml hv
  obtain ⟨rfl, hsz, hP, hK, hD0⟩ := hv
  have hx := B.exec
  have hb := B.bytes
  have hr := B.returns
  have hts := atoms_spec (ws := wsJ9_floorMod_7cf53) B.pre
  have hown : s.vm.findClass RJ9 = some m.cls := findClass_of_methodNamed B.named
  have hlocks := B.notSynchronized
  subst hsz
  have hA : ∀ q : Nat, s.heap.size ≤ q → (fun q : Nat => s.heap.size ≤ q) q := fun _ h => h
  have hS : va_S (fun q : Nat => s.heap.size ≤ q) s.heap s.heap [] := va_S.rf
  have hD := hD0
  have hl := lv_entry ([.int (nI n), .int (nI 3)]) (n := 3) (Nat.le_of_ble_eq_true rfl)
  rw [lg_entry_eq]
  generalize (lg_sl ([.int (nI n), .int (nI 3)]) ++ List.replicate (3 - (lg_sl ([.int (nI n), .int (nI 3)])).length) Slot.unset).toArray = ls at hl ⊢
  have hl : lv_has ls 3 [(0, .int (nI n)), (1, .int (nI 3))] := hl
  refine lv_iload_n hx hb dJ9_floorMod_7cf53_0 rfl (lv_at hl 0 rfl) ?_
  refine lv_iload_n hx hb dJ9_floorMod_7cf53_1 rfl (lv_at hl 1 rfl) ?_
  refine lv_irem hx hb dJ9_floorMod_7cf53_2 (by decide) ?_
  refine zt (y := nI (n % 3)) (pk_rem (by omega) (by omega) (by omega)) ?_
  refine lv_istore_n (lv' := [(2, .int (nI (n % 3))), (0, .int (nI n)), (1, .int (nI 3))]) hx hb dJ9_floorMod_7cf53_3 rfl hl (by decide) rfl (fun ls hl => ?_)
  refine lv_iload_n hx hb dJ9_floorMod_7cf53_4 rfl (lv_at hl 1 rfl) ?_
  refine lv_iload_n hx hb dJ9_floorMod_7cf53_5 rfl (lv_at hl 2 rfl) ?_
  refine lv_ixor hx hb dJ9_floorMod_7cf53_6 ?_
  refine lv_if_ge (tgt := 18) hx hb dJ9_floorMod_7cf53_7 (by decide) (fun h_7 => ?_) (fun h_7 => absurd (fm_pos (by omega)) h_7)
  refine lv_iload_n hx hb dJ9_floorMod_7cf53_18 rfl (lv_at hl 0 rfl) ?_
  exact W.iret (v := nI (n % 3)) hx hb hr (fun t9 ht9 hW9 => ⟨⟨_, (), rfl, rfl, trivial⟩, hS.F ht9⟩) hS.2.2 dJ9_floorMod_7cf53_19
set_option maxHeartbeats 4000000 in
set_option maxRecDepth 100000 in
/-- tableOfRevision -/
theorem c_Tree_tableOfRevision (l : Launch) (dC : Nat → ClassId) (dI : Nat → Nat → Nat) (cI cT : ClassId) (g : Nat → Nat) (a : RS) (n : Nat) (sz : Nat) (hn : n < 1000000) : Met l yX1_tableOfRevision wsX1_tableOfRevision ({ frames := 1, cells := 0, slots := 0, locals := 22 }) (va_Pc [.ref (g 0), .int (nI n)] (zPW (dC, dI) vwCl cI cT (wR g cI cT a) sz)) (zQr sz (g (3 + 4 * (n % 3)))) 0 0 (zfr sz) := by
  refine Met.ofW (cc := cX1_tableOfRevision) (maxL := 2) (ret := (some (.object "RevisionTree$Table"))) (by decide) rfl ?_
  intro p e s m args below meth c s₁ B hml hv
  obtain ⟨rfl, hsz, hP, hK, hD0⟩ := hv
  have hx := B.exec
  have hb := B.bytes
  have hr := B.returns
  have hts := atoms_spec (ws := wsX1_tableOfRevision) B.pre
  have hown : s.vm.findClass RX1 = some m.cls := findClass_of_methodNamed B.named
  have hlocks := B.notSynchronized
  subst hsz
  have hA : ∀ q : Nat, s.heap.size ≤ q → (fun q : Nat => s.heap.size ≤ q) q := fun _ h => h
  have hS : va_S (fun q : Nat => s.heap.size ≤ q) s.heap s.heap [] := va_S.rf
  have hD := hD0
  have hl := lv_entry ([.ref (g 0), .int (nI n)]) (n := 2) (Nat.le_of_ble_eq_true rfl)
  rw [lg_entry_eq]
  generalize (lg_sl ([.ref (g 0), .int (nI n)]) ++ List.replicate (2 - (lg_sl ([.ref (g 0), .int (nI n)])).length) Slot.unset).toArray = ls at hl ⊢
  have hl : lv_has ls 2 [(0, .ref (g 0)), (1, .int (nI n))] := hl
  refine lv_aload_n hx hb dX1_tableOfRevision_0 rfl (lv_at hl 0 rfl) ?_
  refine va_get (D := (dC, dI)) (ci := 1) (v := .ref (g 1)) (C := RX1) (T := TX1) (N := 4) hx hb hts (by decide +kernel) hown hK hP 0 rfl rfl 1 (by decide) (hts (.fieldLink RX1 16 "RevisionTree" "kept" "[LRevisionTree$Table;") (by decide +kernel)) (fun _ h9 => h9) rfl dX1_tableOfRevision_1 ?_
  refine lv_iload_n hx hb dX1_tableOfRevision_4 rfl (lv_at hl 1 rfl) ?_
  refine lv_iconst (v := nI 3) hx hb dX1_tableOfRevision_5 (by decide) ?_
  refine zroi (va_runS (As := [.int (nI n), .int (nI 3)]) (rest := [.ref (g 1)]) ⟨hx, hb, hml, hown, hts⟩ (c_floorMod l dC dI cI cT n s.heap.size hn) (va_cwS 2 hts gX1_tableOfRevision_J9_floorMod_7cf53 rfl rfl rfl (by decide +kernel) ⟨Nat.le_of_ble_eq_true rfl, Nat.le_of_ble_eq_true rfl⟩) (zpreS hK (wc := []) (hP.sub [] rfl) (hD.sub [] (by decide) rfl)) rfl rfl hl.1 rfl (lv_room (Nat.le_of_ble_eq_true rfl)) dX1_tableOfRevision_6 ⟨Nat.le_of_ble_eq_true rfl, Nat.le_of_ble_eq_true rfl⟩) hP hS hA (fun H locs hP hS => ?_)
  refine va_aldq hx hb hK hP 1 1 rfl rfl (vp_in_nI (show n % 3 < 3 by omega) (by decide)) dX1_tableOfRevision_9 ?_
  refine ztr (y := .ref (g (3 + 4 * (n % 3)))) (by rw [nI_clamp (by omega)]; rfl) ?_
  exact W.aret hx hb hr (Or.inl ⟨_, rfl⟩) (Or.inr ⟨_, rfl⟩) (fun t9 ht9 hW9 => ⟨⟨(), _, rfl, trivial, rfl⟩, hS.F ht9⟩) hS.2.2 dX1_tableOfRevision_10
set_option maxHeartbeats 4000000 in
set_option maxRecDepth 100000 in
/-- stateOfReader -/
theorem c_Tree_stateOfReader (l : Launch) (dC : Nat → ClassId) (dI : Nat → Nat → Nat) (cI cT : ClassId) (g : Nat → Nat) (a : RS) (r : Int32) (sz : Nat) (L : Nat) (hok : okR L a) (hL : L < 500000) : Met l yX1_stateOfReader wsX1_stateOfReader ({ frames := 0, cells := 0, slots := 0, locals := 0 }) (va_Pc [.ref (g 0), .int r] (zPW (dC, dI) vwCl cI cT (wR g cI cT a) sz)) (zQi sz (aSt a r)) 0 0 (zfr sz) := by
  refine Met.ofW (cc := cX1_stateOfReader) (maxL := 2) (ret := (some .int)) (by decide) rfl ?_
  intro p e s m args below meth c s₁ B hml hv
  obtain ⟨rfl, hsz, hP, hK, hD0⟩ := hv
  have hx := B.exec
  have hb := B.bytes
  have hr := B.returns
  have hts := atoms_spec (ws := wsX1_stateOfReader) B.pre
  have hown : s.vm.findClass RX1 = some m.cls := findClass_of_methodNamed B.named
  have hlocks := B.notSynchronized
  subst hsz
  have hA : ∀ q : Nat, s.heap.size ≤ q → (fun q : Nat => s.heap.size ≤ q) q := fun _ h => h
  have hS : va_S (fun q : Nat => s.heap.size ≤ q) s.heap s.heap [] := va_S.rf
  have hD := hD0
  have hl := lv_entry ([.ref (g 0), .int r]) (n := 2) (Nat.le_of_ble_eq_true rfl)
  rw [lg_entry_eq]
  generalize (lg_sl ([.ref (g 0), .int r]) ++ List.replicate (2 - (lg_sl ([.ref (g 0), .int r])).length) Slot.unset).toArray = ls at hl ⊢
  have hl : lv_has ls 2 [(0, .ref (g 0)), (1, .int r)] := hl
  have hok3 : okT (tsel a 3) := hok.1 3 (by decide)
  have hlat : rL a ≤ L := hok.2.2
  refine lv_iload_n hx hb dX1_stateOfReader_0 rfl (lv_at hl 1 rfl) ?_
  refine lv_iconst (v := (-1)) hx hb dX1_stateOfReader_1 (by decide) ?_
  refine lv_icmp_lt (tgt := 10) hx hb dX1_stateOfReader_2 (by decide) (fun h_2 => ?_) (fun h_2 => ?_)
  · refine lv_iconst (v := (-1)) hx hb dX1_stateOfReader_10 (by decide) ?_
    exact W.iret (v := (-1)) hx hb hr (fun t9 ht9 hW9 => ⟨⟨_, (), rfl, (aSt_out (Or.inl h_2)).symm, trivial⟩, hS.F ht9⟩) hS.2.2 dX1_stateOfReader_11
  · refine lv_iload_n hx hb dX1_stateOfReader_5 rfl (lv_at hl 1 rfl) ?_
    refine lv_iconst (v := nI 4) hx hb dX1_stateOfReader_6 (by decide) ?_
    refine lv_icmp_lt (tgt := 12) hx hb dX1_stateOfReader_7 (by decide) (fun h_7 => ?_) (fun h_7 => ?_)
    · refine lv_iload_n hx hb dX1_stateOfReader_12 rfl (lv_at hl 1 rfl) ?_
      refine lv_if_lt (tgt := 34) hx hb dX1_stateOfReader_13 (by decide) (fun h_13 => ?_) (fun h_13 => ?_)
      · refine lv_iconst (v := nI 0) hx hb dX1_stateOfReader_34 (by decide) ?_
        exact W.iret (v := nI 0) hx hb hr (fun t9 ht9 hW9 => ⟨⟨_, (), rfl, (aSt_neg h_2 h_13).symm, trivial⟩, hS.F ht9⟩) hS.2.2 dX1_stateOfReader_35
      · obtain ⟨j, hj, rfl, ec⟩ := r_in h_13 (r43.mp h_7)
        have hrd : rRd a j ≤ rL a := hok.2.1 j hj
        refine lv_aload_n hx hb dX1_stateOfReader_16 rfl (lv_at hl 0 rfl) ?_
        refine va_get (D := (dC, dI)) (ci := 1) (v := .int (nI (rL a))) (C := RX1) (T := TX1) (N := 4) hx hb hts (by decide +kernel) hown hK hP 0 rfl rfl 3 (by decide) (hts (.fieldLink RX1 24 "RevisionTree" "latest" "I") (by decide +kernel)) (fun _ h9 => h9) rfl dX1_stateOfReader_17 ?_
        refine lv_aload_n hx hb dX1_stateOfReader_20 rfl (lv_at hl 0 rfl) ?_
        refine va_get (D := (dC, dI)) (ci := 1) (v := .ref (g 2)) (C := RX1) (T := TX1) (N := 4) hx hb hts (by decide +kernel) hown hK hP 0 rfl rfl 2 (by decide) (hts (.fieldLink RX1 20 "RevisionTree" "revisionOfReader" "[I") (by decide +kernel)) (fun _ h9 => h9) rfl dX1_stateOfReader_21 ?_
        refine lv_iload_n hx hb dX1_stateOfReader_24 rfl (lv_at hl 1 rfl) ?_
        refine zrdN hx hb hK hP 2 0 rfl rfl (j := j) (by omega) (by decide) dX1_stateOfReader_25 ?_
        refine lv_isub hx hb dX1_stateOfReader_26 ?_
        refine zt (y := nI ((rL a) - (rRd a j))) (pk_sub (by omega)) ?_
        refine lv_iconst (v := nI 3) hx hb dX1_stateOfReader_27 (by decide) ?_
        refine zlt (tgt := 34) hx hb dX1_stateOfReader_28 (by decide) (by omega) (by omega) (fun h_28 => ?_) (fun h_28 => ?_)
        · refine lv_iconst (v := nI 0) hx hb dX1_stateOfReader_34 (by decide) ?_
          exact W.iret (v := nI 0) hx hb hr (fun t9 ht9 hW9 => ⟨⟨_, (), rfl, (aSt_ok hj (by omega)).symm, trivial⟩, hS.F ht9⟩) hS.2.2 dX1_stateOfReader_35
        · refine lv_bipush (v := (-4)) hx hb dX1_stateOfReader_31 (by decide) ?_
          exact W.iret (v := (-4)) hx hb hr (fun t9 ht9 hW9 => ⟨⟨_, (), rfl, (aSt_gone hj (by omega)).symm, trivial⟩, hS.F ht9⟩) hS.2.2 dX1_stateOfReader_33
    · refine lv_iconst (v := (-1)) hx hb dX1_stateOfReader_10 (by decide) ?_
      exact W.iret (v := (-1)) hx hb hr (fun t9 ht9 hW9 => ⟨⟨_, (), rfl, (aSt_out (Or.inr (i_lt (fun q => h_7 (r43.mpr (i_nl q)))))).symm, trivial⟩, hS.F ht9⟩) hS.2.2 dX1_stateOfReader_11
set_option maxHeartbeats 4000000 in
set_option maxRecDepth 100000 in
/-- tableOfReader, of a reader that may read -/
theorem c_Tree_tableOfReader (l : Launch) (dC : Nat → ClassId) (dI : Nat → Nat → Nat) (cI cT : ClassId) (g : Nat → Nat) (a : RS) (r : Int32) (sz : Nat) (L : Nat) (hok : okR L a) (hL : L < 500000) (h0 : aSt a r = 0) : Met l yX1_tableOfReader wsX1_tableOfReader ({ frames := 2, cells := 0, slots := 0, locals := 43 }) (va_Pc [.ref (g 0), .int r] (zPW (dC, dI) vwCl cI cT (wR g cI cT a) sz)) (zQr sz (g (3 + 4 * aTb a r))) 0 0 (zfr sz) := by
  refine Met.ofW (cc := cX1_tableOfReader) (maxL := 2) (ret := (some (.object "RevisionTree$Table"))) (by decide) rfl ?_
  intro p e s m args below meth c s₁ B hml hv
  obtain ⟨rfl, hsz, hP, hK, hD0⟩ := hv
  have hx := B.exec
  have hb := B.bytes
  have hr := B.returns
  have hts := atoms_spec (ws := wsX1_tableOfReader) B.pre
  have hown : s.vm.findClass RX1 = some m.cls := findClass_of_methodNamed B.named
  have hlocks := B.notSynchronized
  subst hsz
  have hA : ∀ q : Nat, s.heap.size ≤ q → (fun q : Nat => s.heap.size ≤ q) q := fun _ h => h
  have hS : va_S (fun q : Nat => s.heap.size ≤ q) s.heap s.heap [] := va_S.rf
  have hD := hD0
  have hl := lv_entry ([.ref (g 0), .int r]) (n := 2) (Nat.le_of_ble_eq_true rfl)
  rw [lg_entry_eq]
  generalize (lg_sl ([.ref (g 0), .int r]) ++ List.replicate (2 - (lg_sl ([.ref (g 0), .int r])).length) Slot.unset).toArray = ls at hl ⊢
  have hl : lv_has ls 2 [(0, .ref (g 0)), (1, .int r)] := hl
  have hok3 : okT (tsel a 3) := hok.1 3 (by decide)
  have hlat : rL a ≤ L := hok.2.2
  refine lv_iload_n hx hb dX1_tableOfReader_0 rfl (lv_at hl 1 rfl) ?_
  refine lv_if_ge (tgt := 11) hx hb dX1_tableOfReader_1 (by decide) (fun h_1 => ?_) (fun h_1 => ?_)
  · obtain ⟨j, hj, rfl, ec⟩ := r_in (i_nl h_1) (aSt_0 h0).2
    have hrd : rRd a j ≤ rL a := hok.2.1 j hj
    refine lv_aload_n hx hb dX1_tableOfReader_11 rfl (lv_at hl 0 rfl) ?_
    refine lv_aload_n hx hb dX1_tableOfReader_12 rfl (lv_at hl 0 rfl) ?_
    refine va_get (D := (dC, dI)) (ci := 1) (v := .ref (g 2)) (C := RX1) (T := TX1) (N := 4) hx hb hts (by decide +kernel) hown hK hP 0 rfl rfl 2 (by decide) (hts (.fieldLink RX1 20 "RevisionTree" "revisionOfReader" "[I") (by decide +kernel)) (fun _ h9 => h9) rfl dX1_tableOfReader_13 ?_
    refine lv_iload_n hx hb dX1_tableOfReader_16 rfl (lv_at hl 1 rfl) ?_
    refine zrdN hx hb hK hP 2 0 rfl rfl (j := j) (by omega) (by decide) dX1_tableOfReader_17 ?_
    refine zror (va_runV (As := [.int (nI (rRd a j))]) (rest := []) ⟨hx, hb, hml, hown, hts⟩ (c_Tree_tableOfRevision l dC dI cI cT g a (rRd a j) s.heap.size (by omega)) (cwV 1 hts gX1_tableOfReader_X1_tableOfRevision rfl rfl rfl (by decide +kernel) ⟨Nat.le_of_ble_eq_true rfl, Nat.le_of_ble_eq_true rfl⟩) (zpreV hK hP hD rfl 0 rfl) rfl rfl hl.1 rfl (lv_room (Nat.le_of_ble_eq_true rfl)) dX1_tableOfReader_18 ⟨Nat.le_of_ble_eq_true rfl, Nat.le_of_ble_eq_true rfl⟩) hP hS hA (fun H locs hP hS => ?_)
    exact W.aret hx hb hr (Or.inl ⟨_, rfl⟩) (Or.inr ⟨_, rfl⟩) (fun t9 ht9 hW9 => ⟨⟨(), _, rfl, trivial, by show g (3 + 4 * (rRd a j % 3)) = g (3 + 4 * aTb a (nI j)); rw [aTb_j hj]⟩, hS.F ht9⟩) hS.2.2 dX1_tableOfReader_21
  · refine lv_aload_n hx hb dX1_tableOfReader_4 rfl (lv_at hl 0 rfl) ?_
    refine va_get (D := (dC, dI)) (ci := 1) (v := .ref (g 15)) (C := RX1) (T := TX1) (N := 4) hx hb hts (by decide +kernel) hown hK hP 0 rfl rfl 0 (by decide) (hts (.fieldLink RX1 10 "RevisionTree" "worked" "LRevisionTree$Table;") (by decide +kernel)) (fun _ h9 => h9) rfl dX1_tableOfReader_5 ?_
    refine lv_goto (tgt := 21) hx hb dX1_tableOfReader_8 (by decide) ?_
    exact W.aret hx hb hr (Or.inl ⟨_, rfl⟩) (Or.inr ⟨_, rfl⟩) (fun t9 ht9 hW9 => ⟨⟨(), _, rfl, trivial, by show g 15 = g (3 + 4 * aTb a r); rw [aTb_n (i_lt h_1)]⟩, hS.F ht9⟩) hS.2.2 dX1_tableOfReader_21
end
section
set_option maxHeartbeats 4000000 in
set_option maxRecDepth 100000 in
/-- get -/
theorem c_Tree_get (l : Launch) (dC : Nat → ClassId) (dI : Nat → Nat → Nat) (cI cT : ClassId) (g : Nat → Nat) (a : RS) (r k : Int32) (sz : Nat) (L : Nat) (hok : okR L a) (hL : L < 500000) : Met l yX1_get wsX1_get ({ frames := 3, cells := 0, slots := 0, locals := 64 }) (va_Pc [.ref (g 0), .int r, .int k] (zPW (dC, dI) vwCl cI cT (wR g cI cT a) sz)) (zQl sz (aGet a r k)) 0 0 (zfr sz) := by
  refine Met.ofW (cc := cX1_get) (maxL := 6) (ret := (some .long)) (by decide) rfl ?_
  intro p e s m args below meth c s₁ B hml hv
  obtain ⟨rfl, hsz, hP, hK, hD0⟩ := hv
  have hx := B.exec
  have hb := B.bytes
  have hr := B.returns
  have hts := atoms_spec (ws := wsX1_get) B.pre
  have hown : s.vm.findClass RX1 = some m.cls := findClass_of_methodNamed B.named
  have hlocks := B.notSynchronized
  subst hsz
  have hA : ∀ q : Nat, s.heap.size ≤ q → (fun q : Nat => s.heap.size ≤ q) q := fun _ h => h
  have hS : va_S (fun q : Nat => s.heap.size ≤ q) s.heap s.heap [] := va_S.rf
  have hD := hD0
  have hl := lv_entry ([.ref (g 0), .int r, .int k]) (n := 6) (Nat.le_of_ble_eq_true rfl)
  rw [lg_entry_eq]
  generalize (lg_sl ([.ref (g 0), .int r, .int k]) ++ List.replicate (6 - (lg_sl ([.ref (g 0), .int r, .int k])).length) Slot.unset).toArray = ls at hl ⊢
  have hl : lv_has ls 6 [(0, .ref (g 0)), (1, .int r), (2, .int k)] := hl
  have hok3 : okT (tsel a 3) := hok.1 3 (by decide)
  have hlat : rL a ≤ L := hok.2.2
  refine lv_aload_n hx hb dX1_get_0 rfl (lv_at hl 0 rfl) ?_
  refine lv_iload_n hx hb dX1_get_1 rfl (lv_at hl 1 rfl) ?_
  refine zroi (va_runV (As := [.int r]) (rest := []) ⟨hx, hb, hml, hown, hts⟩ (c_Tree_stateOfReader l dC dI cI cT g a r s.heap.size L hok hL) (cwV 1 hts gX1_get_X1_stateOfReader rfl rfl rfl (by decide +kernel) ⟨Nat.le_of_ble_eq_true rfl, Nat.le_of_ble_eq_true rfl⟩) (zpreV hK hP hD rfl 0 rfl) rfl rfl hl.1 rfl (lv_room (Nat.le_of_ble_eq_true rfl)) dX1_get_2 ⟨Nat.le_of_ble_eq_true rfl, Nat.le_of_ble_eq_true rfl⟩) hP hS hA (fun H locs hP hS => ?_)
  refine lv_istore_n (lv' := [(3, .int (aSt a r)), (0, .ref (g 0)), (1, .int r), (2, .int k)]) hx hb dX1_get_5 rfl hl (by decide) rfl (fun ls hl => ?_)
  refine lv_iload_n hx hb dX1_get_6 rfl (lv_at hl 0 rfl) ?_
  refine lv_if_eq (tgt := 17) hx hb dX1_get_7 (by decide) (fun h_7 => ?_) (fun h_7 => ?_)
  · refine lv_aload_n hx hb dX1_get_17 rfl (lv_at hl 1 rfl) ?_
    refine lv_iload_n hx hb dX1_get_18 rfl (lv_at hl 2 rfl) ?_
    refine zror (va_runV (As := [.int r]) (rest := []) ⟨hx, hb, hml, hown, hts⟩ (c_Tree_tableOfReader l dC dI cI cT g a r H.size L hok hL h_7) (cwV 1 hts gX1_get_X1_tableOfReader rfl rfl rfl (by decide +kernel) ⟨Nat.le_of_ble_eq_true rfl, Nat.le_of_ble_eq_true rfl⟩) (zpreV hK hP hD rfl 0 rfl) rfl rfl hl.1 rfl (lv_room (Nat.le_of_ble_eq_true rfl)) dX1_get_19 ⟨Nat.le_of_ble_eq_true rfl, Nat.le_of_ble_eq_true rfl⟩) hP hS hA (fun H locs hP hS => ?_)
    have hPt := wR_t hP (aTb_lt a r)
    have hDt := wR_d hD (aTb_lt a r)
    have hokt : okT (tsel a (aTb a r)) := hok.1 _ (aTb_lt a r)
    have hn : (tsel a (aTb a r)).1 ≤ 400 := hokt.1
    have hpl : tPl (tsel a (aTb a r)) k ≤ (tsel a (aTb a r)).1 := pl_le _ _ _
    refine lv_astore (lv' := [(4, .ref (g (3 + 4 * aTb a r))), (3, .int (aSt a r)), (0, .ref (g 0)), (1, .int r), (2, .int k)]) hx hb dX1_get_22 hl (by decide) rfl (fun ls hl => ?_)
    refine lv_aload hx hb dX1_get_24 (lv_at hl 0 rfl) ?_
    refine lv_iload_n hx hb dX1_get_26 rfl (lv_at hl 4 rfl) ?_
    refine zroi (va_runV (As := [.int k]) (rest := []) ⟨hx, hb, hml, hown, hts⟩ (c_Table_placeOf l dC dI cI cT (g (3 + 4 * aTb a r)) (g (4 + 4 * aTb a r)) (g (5 + 4 * aTb a r)) (g (6 + 4 * aTb a r)) (tsel a (aTb a r)) k H.size hokt) (cwV 1 hts gX1_get_X0_placeOf rfl rfl rfl (by decide +kernel) ⟨Nat.le_of_ble_eq_true rfl, Nat.le_of_ble_eq_true rfl⟩) (zpreV hK hPt hDt rfl 0 rfl) rfl rfl hl.1 rfl (lv_room (Nat.le_of_ble_eq_true rfl)) dX1_get_27 ⟨Nat.le_of_ble_eq_true rfl, Nat.le_of_ble_eq_true rfl⟩) hP hS hA (fun H locs hP hS => ?_)
    have hPt := wR_t hP (aTb_lt a r)
    have hDt := wR_d hD (aTb_lt a r)
    refine lv_istore (lv' := [(5, .int (nI (tPl (tsel a (aTb a r)) k))), (4, .ref (g (3 + 4 * aTb a r))), (3, .int (aSt a r)), (0, .ref (g 0)), (1, .int r), (2, .int k)]) hx hb dX1_get_30 hl (by decide) rfl (fun ls hl => ?_)
    refine lv_aload hx hb dX1_get_32 (lv_at hl 1 rfl) ?_
    refine lv_iload hx hb dX1_get_34 (lv_at hl 0 rfl) ?_
    refine lv_iload_n hx hb dX1_get_36 rfl (lv_at hl 5 rfl) ?_
    refine zroi (va_runV (As := [.int (nI (tPl (tsel a (aTb a r)) k)), .int k]) (rest := []) ⟨hx, hb, hml, hown, hts⟩ (c_Table_hasAt l dC dI cI cT (g (3 + 4 * aTb a r)) (g (4 + 4 * aTb a r)) (g (5 + 4 * aTb a r)) (g (6 + 4 * aTb a r)) (tsel a (aTb a r)) (tPl (tsel a (aTb a r)) k) k H.size hn (by omega)) (cwV 2 hts gX1_get_X0_hasAt rfl rfl rfl (by decide +kernel) ⟨Nat.le_of_ble_eq_true rfl, Nat.le_of_ble_eq_true rfl⟩) (zpreV hK hPt hDt rfl 0 rfl) rfl rfl hl.1 rfl (lv_room (Nat.le_of_ble_eq_true rfl)) dX1_get_37 ⟨Nat.le_of_ble_eq_true rfl, Nat.le_of_ble_eq_true rfl⟩) hP hS hA (fun H locs hP hS => ?_)
    have hPt := wR_t hP (aTb_lt a r)
    have hDt := wR_d hD (aTb_lt a r)
    refine zifeq (tgt := 55) hx hb dX1_get_40 (by decide) (fun h_40 => ?_) (fun h_40 => ?_)
    · refine lv_ldc2 (v := 1099511627774) hx hb hown (hts (.constantLong RX1 70 1099511627774) (by decide +kernel)) dX1_get_55 ?_
      exact W.lret (v := 1099511627774) hx hb hr (fun t9 ht9 hW9 => ⟨⟨_, (), rfl, by unfold aGet; rw [if_pos h_7, if_neg h_40], trivial⟩, hS.F ht9⟩) hS.2.2 dX1_get_58
    · have hlt : tPl (tsel a (aTb a r)) k < (tsel a (aTb a r)).1 := h_40.1
      refine lv_aload hx hb dX1_get_43 (lv_at hl 1 rfl) ?_
      refine va_get (D := (dC, dI)) (ci := 0) (v := .ref (g (5 + 4 * aTb a r))) (C := RX0) (T := TX0) (N := 4) hx hb hts (by decide +kernel) hown hK hPt 0 rfl rfl 1 (by decide) (hts (.fieldLink RX1 67 "RevisionTree$Table" "values" "[I") (by decide +kernel)) (fun _ h9 => h9) rfl dX1_get_45 ?_
      refine lv_iload hx hb dX1_get_48 (lv_at hl 0 rfl) ?_
      refine zrdN hx hb hK hPt 2 0 rfl rfl (j := tPl (tsel a (aTb a r)) k) (by omega) (by decide) dX1_get_50 ?_
      refine lv_i2l hx hb dX1_get_51 rfl ?_
      refine lv_goto (tgt := 58) hx hb dX1_get_52 (by decide) ?_
      exact W.lret (v := (((tsel a (aTb a r)).2.2.1) (tPl (tsel a (aTb a r)) k)).toInt64) hx hb hr (fun t9 ht9 hW9 => ⟨⟨_, (), rfl, by unfold aGet; rw [if_pos h_7, if_pos h_40], trivial⟩, hS.F ht9⟩) hS.2.2 dX1_get_58
  · refine lv_ldc2 (v := 1099511627776) hx hb hown (hts (.constantLong RX1 55 1099511627776) (by decide +kernel)) dX1_get_10 ?_
    refine lv_iload_n hx hb dX1_get_13 rfl (lv_at hl 0 rfl) ?_
    refine lv_i2l hx hb dX1_get_14 rfl ?_
    refine lv_ladd hx hb dX1_get_15 ?_
    exact W.lret (v := 1099511627776 + ((aSt a r).toInt64)) hx hb hr (fun t9 ht9 hW9 => ⟨⟨_, (), rfl, (if_neg h_7).symm, trivial⟩, hS.F ht9⟩) hS.2.2 dX1_get_16
set_option maxHeartbeats 4000000 in
set_option maxRecDepth 100000 in
/-- size -/
theorem c_Tree_size (l : Launch) (dC : Nat → ClassId) (dI : Nat → Nat → Nat) (cI cT : ClassId) (g : Nat → Nat) (a : RS) (r k : Int32) (sz : Nat) (L : Nat) (hok : okR L a) (hL : L < 500000) : Met l yX1_size wsX1_size ({ frames := 3, cells := 0, slots := 0, locals := 64 }) (va_Pc [.ref (g 0), .int r, .int k] (zPW (dC, dI) vwCl cI cT (wR g cI cT a) sz)) (zQi sz (aSize a r k)) 0 0 (zfr sz) := by
  refine Met.ofW (cc := cX1_size) (maxL := 6) (ret := (some .int)) (by decide) rfl ?_
  intro p e s m args below meth c s₁ B hml hv
  obtain ⟨rfl, hsz, hP, hK, hD0⟩ := hv
  have hx := B.exec
  have hb := B.bytes
  have hr := B.returns
  have hts := atoms_spec (ws := wsX1_size) B.pre
  have hown : s.vm.findClass RX1 = some m.cls := findClass_of_methodNamed B.named
  have hlocks := B.notSynchronized
  subst hsz
  have hA : ∀ q : Nat, s.heap.size ≤ q → (fun q : Nat => s.heap.size ≤ q) q := fun _ h => h
  have hS : va_S (fun q : Nat => s.heap.size ≤ q) s.heap s.heap [] := va_S.rf
  have hD := hD0
  have hl := lv_entry ([.ref (g 0), .int r, .int k]) (n := 6) (Nat.le_of_ble_eq_true rfl)
  rw [lg_entry_eq]
  generalize (lg_sl ([.ref (g 0), .int r, .int k]) ++ List.replicate (6 - (lg_sl ([.ref (g 0), .int r, .int k])).length) Slot.unset).toArray = ls at hl ⊢
  have hl : lv_has ls 6 [(0, .ref (g 0)), (1, .int r), (2, .int k)] := hl
  have hok3 : okT (tsel a 3) := hok.1 3 (by decide)
  have hlat : rL a ≤ L := hok.2.2
  refine lv_aload_n hx hb dX1_size_0 rfl (lv_at hl 0 rfl) ?_
  refine lv_iload_n hx hb dX1_size_1 rfl (lv_at hl 1 rfl) ?_
  refine zroi (va_runV (As := [.int r]) (rest := []) ⟨hx, hb, hml, hown, hts⟩ (c_Tree_stateOfReader l dC dI cI cT g a r s.heap.size L hok hL) (cwV 1 hts gX1_size_X1_stateOfReader rfl rfl rfl (by decide +kernel) ⟨Nat.le_of_ble_eq_true rfl, Nat.le_of_ble_eq_true rfl⟩) (zpreV hK hP hD rfl 0 rfl) rfl rfl hl.1 rfl (lv_room (Nat.le_of_ble_eq_true rfl)) dX1_size_2 ⟨Nat.le_of_ble_eq_true rfl, Nat.le_of_ble_eq_true rfl⟩) hP hS hA (fun H locs hP hS => ?_)
  refine lv_istore_n (lv' := [(3, .int (aSt a r)), (0, .ref (g 0)), (1, .int r), (2, .int k)]) hx hb dX1_size_5 rfl hl (by decide) rfl (fun ls hl => ?_)
  refine lv_iload_n hx hb dX1_size_6 rfl (lv_at hl 0 rfl) ?_
  refine lv_if_eq (tgt := 12) hx hb dX1_size_7 (by decide) (fun h_7 => ?_) (fun h_7 => ?_)
  · refine lv_aload_n hx hb dX1_size_12 rfl (lv_at hl 1 rfl) ?_
    refine lv_iload_n hx hb dX1_size_13 rfl (lv_at hl 2 rfl) ?_
    refine zror (va_runV (As := [.int r]) (rest := []) ⟨hx, hb, hml, hown, hts⟩ (c_Tree_tableOfReader l dC dI cI cT g a r H.size L hok hL h_7) (cwV 1 hts gX1_size_X1_tableOfReader rfl rfl rfl (by decide +kernel) ⟨Nat.le_of_ble_eq_true rfl, Nat.le_of_ble_eq_true rfl⟩) (zpreV hK hP hD rfl 0 rfl) rfl rfl hl.1 rfl (lv_room (Nat.le_of_ble_eq_true rfl)) dX1_size_14 ⟨Nat.le_of_ble_eq_true rfl, Nat.le_of_ble_eq_true rfl⟩) hP hS hA (fun H locs hP hS => ?_)
    have hPt := wR_t hP (aTb_lt a r)
    have hDt := wR_d hD (aTb_lt a r)
    have hokt : okT (tsel a (aTb a r)) := hok.1 _ (aTb_lt a r)
    have hn : (tsel a (aTb a r)).1 ≤ 400 := hokt.1
    have hpl : tPl (tsel a (aTb a r)) k ≤ (tsel a (aTb a r)).1 := pl_le _ _ _
    refine lv_astore (lv' := [(4, .ref (g (3 + 4 * aTb a r))), (3, .int (aSt a r)), (0, .ref (g 0)), (1, .int r), (2, .int k)]) hx hb dX1_size_17 hl (by decide) rfl (fun ls hl => ?_)
    refine lv_aload hx hb dX1_size_19 (lv_at hl 0 rfl) ?_
    refine lv_iload_n hx hb dX1_size_21 rfl (lv_at hl 4 rfl) ?_
    refine zroi (va_runV (As := [.int k]) (rest := []) ⟨hx, hb, hml, hown, hts⟩ (c_Table_placeOf l dC dI cI cT (g (3 + 4 * aTb a r)) (g (4 + 4 * aTb a r)) (g (5 + 4 * aTb a r)) (g (6 + 4 * aTb a r)) (tsel a (aTb a r)) k H.size hokt) (cwV 1 hts gX1_size_X0_placeOf rfl rfl rfl (by decide +kernel) ⟨Nat.le_of_ble_eq_true rfl, Nat.le_of_ble_eq_true rfl⟩) (zpreV hK hPt hDt rfl 0 rfl) rfl rfl hl.1 rfl (lv_room (Nat.le_of_ble_eq_true rfl)) dX1_size_22 ⟨Nat.le_of_ble_eq_true rfl, Nat.le_of_ble_eq_true rfl⟩) hP hS hA (fun H locs hP hS => ?_)
    have hPt := wR_t hP (aTb_lt a r)
    have hDt := wR_d hD (aTb_lt a r)
    refine lv_istore (lv' := [(5, .int (nI (tPl (tsel a (aTb a r)) k))), (4, .ref (g (3 + 4 * aTb a r))), (3, .int (aSt a r)), (0, .ref (g 0)), (1, .int r), (2, .int k)]) hx hb dX1_size_25 hl (by decide) rfl (fun ls hl => ?_)
    refine lv_aload hx hb dX1_size_27 (lv_at hl 1 rfl) ?_
    refine lv_iload hx hb dX1_size_29 (lv_at hl 0 rfl) ?_
    refine lv_iload_n hx hb dX1_size_31 rfl (lv_at hl 5 rfl) ?_
    refine zroi (va_runV (As := [.int (nI (tPl (tsel a (aTb a r)) k)), .int k]) (rest := []) ⟨hx, hb, hml, hown, hts⟩ (c_Table_hasAt l dC dI cI cT (g (3 + 4 * aTb a r)) (g (4 + 4 * aTb a r)) (g (5 + 4 * aTb a r)) (g (6 + 4 * aTb a r)) (tsel a (aTb a r)) (tPl (tsel a (aTb a r)) k) k H.size hn (by omega)) (cwV 2 hts gX1_size_X0_hasAt rfl rfl rfl (by decide +kernel) ⟨Nat.le_of_ble_eq_true rfl, Nat.le_of_ble_eq_true rfl⟩) (zpreV hK hPt hDt rfl 0 rfl) rfl rfl hl.1 rfl (lv_room (Nat.le_of_ble_eq_true rfl)) dX1_size_32 ⟨Nat.le_of_ble_eq_true rfl, Nat.le_of_ble_eq_true rfl⟩) hP hS hA (fun H locs hP hS => ?_)
    have hPt := wR_t hP (aTb_lt a r)
    have hDt := wR_d hD (aTb_lt a r)
    refine zifeq (tgt := 49) hx hb dX1_size_35 (by decide) (fun h_35 => ?_) (fun h_35 => ?_)
    · refine lv_bipush (v := (-2)) hx hb dX1_size_49 (by decide) ?_
      exact W.iret (v := (-2)) hx hb hr (fun t9 ht9 hW9 => ⟨⟨_, (), rfl, by unfold aSize; rw [if_pos h_7, if_neg h_35], trivial⟩, hS.F ht9⟩) hS.2.2 dX1_size_51
    · have hlt : tPl (tsel a (aTb a r)) k < (tsel a (aTb a r)).1 := h_35.1
      refine lv_aload hx hb dX1_size_38 (lv_at hl 1 rfl) ?_
      refine va_get (D := (dC, dI)) (ci := 0) (v := .ref (g (6 + 4 * aTb a r))) (C := RX0) (T := TX0) (N := 4) hx hb hts (by decide +kernel) hown hK hPt 0 rfl rfl 2 (by decide) (hts (.fieldLink RX1 78 "RevisionTree$Table" "sizes" "[I") (by decide +kernel)) (fun _ h9 => h9) rfl dX1_size_40 ?_
      refine lv_iload hx hb dX1_size_43 (lv_at hl 0 rfl) ?_
      refine zrdN hx hb hK hPt 3 0 rfl rfl (j := tPl (tsel a (aTb a r)) k) (by omega) (by decide) dX1_size_45 ?_
      refine lv_goto (tgt := 51) hx hb dX1_size_46 (by decide) ?_
      exact W.iret (v := ((tsel a (aTb a r)).2.2.2) (tPl (tsel a (aTb a r)) k)) hx hb hr (fun t9 ht9 hW9 => ⟨⟨_, (), rfl, by unfold aSize; rw [if_pos h_7, if_pos h_35], trivial⟩, hS.F ht9⟩) hS.2.2 dX1_size_51
  · refine lv_iload_n hx hb dX1_size_10 rfl (lv_at hl 0 rfl) ?_
    exact W.iret (v := aSt a r) hx hb hr (fun t9 ht9 hW9 => ⟨⟨_, (), rfl, (if_neg h_7).symm, trivial⟩, hS.F ht9⟩) hS.2.2 dX1_size_11
set_option maxHeartbeats 4000000 in
set_option maxRecDepth 100000 in
/-- next -/
theorem c_Tree_next (l : Launch) (dC : Nat → ClassId) (dI : Nat → Nat → Nat) (cI cT : ClassId) (g : Nat → Nat) (a : RS) (r k : Int32) (sz : Nat) (L : Nat) (hok : okR L a) (hL : L < 500000) : Met l yX1_next wsX1_next ({ frames := 3, cells := 0, slots := 0, locals := 64 }) (va_Pc [.ref (g 0), .int r, .int k] (zPW (dC, dI) vwCl cI cT (wR g cI cT a) sz)) (zQl sz (aNext a r k)) 0 0 (zfr sz) := by
  refine Met.ofW (cc := cX1_next) (maxL := 6) (ret := (some .long)) (by decide) rfl ?_
  intro p e s m args below meth c s₁ B hml hv
  obtain ⟨rfl, hsz, hP, hK, hD0⟩ := hv
  have hx := B.exec
  have hb := B.bytes
  have hr := B.returns
  have hts := atoms_spec (ws := wsX1_next) B.pre
  have hown : s.vm.findClass RX1 = some m.cls := findClass_of_methodNamed B.named
  have hlocks := B.notSynchronized
  subst hsz
  have hA : ∀ q : Nat, s.heap.size ≤ q → (fun q : Nat => s.heap.size ≤ q) q := fun _ h => h
  have hS : va_S (fun q : Nat => s.heap.size ≤ q) s.heap s.heap [] := va_S.rf
  have hD := hD0
  have hl := lv_entry ([.ref (g 0), .int r, .int k]) (n := 6) (Nat.le_of_ble_eq_true rfl)
  rw [lg_entry_eq]
  generalize (lg_sl ([.ref (g 0), .int r, .int k]) ++ List.replicate (6 - (lg_sl ([.ref (g 0), .int r, .int k])).length) Slot.unset).toArray = ls at hl ⊢
  have hl : lv_has ls 6 [(0, .ref (g 0)), (1, .int r), (2, .int k)] := hl
  have hok3 : okT (tsel a 3) := hok.1 3 (by decide)
  have hlat : rL a ≤ L := hok.2.2
  refine lv_aload_n hx hb dX1_next_0 rfl (lv_at hl 0 rfl) ?_
  refine lv_iload_n hx hb dX1_next_1 rfl (lv_at hl 1 rfl) ?_
  refine zroi (va_runV (As := [.int r]) (rest := []) ⟨hx, hb, hml, hown, hts⟩ (c_Tree_stateOfReader l dC dI cI cT g a r s.heap.size L hok hL) (cwV 1 hts gX1_next_X1_stateOfReader rfl rfl rfl (by decide +kernel) ⟨Nat.le_of_ble_eq_true rfl, Nat.le_of_ble_eq_true rfl⟩) (zpreV hK hP hD rfl 0 rfl) rfl rfl hl.1 rfl (lv_room (Nat.le_of_ble_eq_true rfl)) dX1_next_2 ⟨Nat.le_of_ble_eq_true rfl, Nat.le_of_ble_eq_true rfl⟩) hP hS hA (fun H locs hP hS => ?_)
  refine lv_istore_n (lv' := [(3, .int (aSt a r)), (0, .ref (g 0)), (1, .int r), (2, .int k)]) hx hb dX1_next_5 rfl hl (by decide) rfl (fun ls hl => ?_)
  refine lv_iload_n hx hb dX1_next_6 rfl (lv_at hl 0 rfl) ?_
  refine lv_if_eq (tgt := 17) hx hb dX1_next_7 (by decide) (fun h_7 => ?_) (fun h_7 => ?_)
  · refine lv_aload_n hx hb dX1_next_17 rfl (lv_at hl 1 rfl) ?_
    refine lv_iload_n hx hb dX1_next_18 rfl (lv_at hl 2 rfl) ?_
    refine zror (va_runV (As := [.int r]) (rest := []) ⟨hx, hb, hml, hown, hts⟩ (c_Tree_tableOfReader l dC dI cI cT g a r H.size L hok hL h_7) (cwV 1 hts gX1_next_X1_tableOfReader rfl rfl rfl (by decide +kernel) ⟨Nat.le_of_ble_eq_true rfl, Nat.le_of_ble_eq_true rfl⟩) (zpreV hK hP hD rfl 0 rfl) rfl rfl hl.1 rfl (lv_room (Nat.le_of_ble_eq_true rfl)) dX1_next_19 ⟨Nat.le_of_ble_eq_true rfl, Nat.le_of_ble_eq_true rfl⟩) hP hS hA (fun H locs hP hS => ?_)
    have hPt := wR_t hP (aTb_lt a r)
    have hDt := wR_d hD (aTb_lt a r)
    have hokt : okT (tsel a (aTb a r)) := hok.1 _ (aTb_lt a r)
    have hn : (tsel a (aTb a r)).1 ≤ 400 := hokt.1
    have hpl : tPl (tsel a (aTb a r)) k ≤ (tsel a (aTb a r)).1 := pl_le _ _ _
    refine lv_astore (lv' := [(4, .ref (g (3 + 4 * aTb a r))), (3, .int (aSt a r)), (0, .ref (g 0)), (1, .int r), (2, .int k)]) hx hb dX1_next_22 hl (by decide) rfl (fun ls hl => ?_)
    refine lv_aload hx hb dX1_next_24 (lv_at hl 0 rfl) ?_
    refine lv_iload_n hx hb dX1_next_26 rfl (lv_at hl 4 rfl) ?_
    refine zroi (va_runV (As := [.int k]) (rest := []) ⟨hx, hb, hml, hown, hts⟩ (c_Table_placeAbove l dC dI cI cT (g (3 + 4 * aTb a r)) (g (4 + 4 * aTb a r)) (g (5 + 4 * aTb a r)) (g (6 + 4 * aTb a r)) (tsel a (aTb a r)) k H.size hokt) (cwV 1 hts gX1_next_X0_placeAbove rfl rfl rfl (by decide +kernel) ⟨Nat.le_of_ble_eq_true rfl, Nat.le_of_ble_eq_true rfl⟩) (zpreV hK hPt hDt rfl 0 rfl) rfl rfl hl.1 rfl (lv_room (Nat.le_of_ble_eq_true rfl)) dX1_next_27 ⟨Nat.le_of_ble_eq_true rfl, Nat.le_of_ble_eq_true rfl⟩) hP hS hA (fun H locs hP hS => ?_)
    have hPt := wR_t hP (aTb_lt a r)
    have hDt := wR_d hD (aTb_lt a r)
    refine lv_istore (lv' := [(5, .int (nI (tAb (tsel a (aTb a r)) k))), (4, .ref (g (3 + 4 * aTb a r))), (3, .int (aSt a r)), (0, .ref (g 0)), (1, .int r), (2, .int k)]) hx hb dX1_next_30 hl (by decide) rfl (fun ls hl => ?_)
    have hab : tAb (tsel a (aTb a r)) k ≤ (tsel a (aTb a r)).1 + 1 := tAb_le _ _
    refine lv_iload hx hb dX1_next_32 (lv_at hl 0 rfl) ?_
    refine lv_aload hx hb dX1_next_34 (lv_at hl 1 rfl) ?_
    refine va_get (D := (dC, dI)) (ci := 0) (v := .int (nI ((tsel a (aTb a r)).1))) (C := RX0) (T := TX0) (N := 4) hx hb hts (by decide +kernel) hown hK hPt 0 rfl rfl 3 (by decide) (hts (.fieldLink RX1 40 "RevisionTree$Table" "held" "I") (by decide +kernel)) (fun _ h9 => h9) rfl dX1_next_36 ?_
    refine zge (tgt := 54) hx hb dX1_next_39 (by decide) (by omega) (by omega) (fun h_39 => ?_) (fun h_39 => ?_)
    · refine lv_ldc2 (v := 1099511627774) hx hb hown (hts (.constantLong RX1 70 1099511627774) (by decide +kernel)) dX1_next_54 ?_
      exact W.lret (v := 1099511627774) hx hb hr (fun t9 ht9 hW9 => ⟨⟨_, (), rfl, by unfold aNext; rw [if_pos h_7, if_neg (show ¬ tAb (tsel a (aTb a r)) k < (tsel a (aTb a r)).1 by omega)], trivial⟩, hS.F ht9⟩) hS.2.2 dX1_next_57
    · refine lv_aload hx hb dX1_next_42 (lv_at hl 1 rfl) ?_
      refine va_get (D := (dC, dI)) (ci := 0) (v := .ref (g (4 + 4 * aTb a r))) (C := RX0) (T := TX0) (N := 4) hx hb hts (by decide +kernel) hown hK hPt 0 rfl rfl 0 (by decide) (hts (.fieldLink RX1 75 "RevisionTree$Table" "keys" "[I") (by decide +kernel)) (fun _ h9 => h9) rfl dX1_next_44 ?_
      refine lv_iload hx hb dX1_next_47 (lv_at hl 0 rfl) ?_
      refine zrdN hx hb hK hPt 1 0 rfl rfl (j := tAb (tsel a (aTb a r)) k) (by omega) (by decide) dX1_next_49 ?_
      refine lv_i2l hx hb dX1_next_50 rfl ?_
      refine lv_goto (tgt := 57) hx hb dX1_next_51 (by decide) ?_
      exact W.lret (v := (((tsel a (aTb a r)).2.1) (tAb (tsel a (aTb a r)) k)).toInt64) hx hb hr (fun t9 ht9 hW9 => ⟨⟨_, (), rfl, by unfold aNext; rw [if_pos h_7, if_pos h_39], trivial⟩, hS.F ht9⟩) hS.2.2 dX1_next_57
  · refine lv_ldc2 (v := 1099511627776) hx hb hown (hts (.constantLong RX1 55 1099511627776) (by decide +kernel)) dX1_next_10 ?_
    refine lv_iload_n hx hb dX1_next_13 rfl (lv_at hl 0 rfl) ?_
    refine lv_i2l hx hb dX1_next_14 rfl ?_
    refine lv_ladd hx hb dX1_next_15 ?_
    exact W.lret (v := 1099511627776 + ((aSt a r).toInt64)) hx hb hr (fun t9 ht9 hW9 => ⟨⟨_, (), rfl, (if_neg h_7).symm, trivial⟩, hS.F ht9⟩) hS.2.2 dX1_next_16
set_option maxHeartbeats 4000000 in
set_option maxRecDepth 100000 in
/-- count -/
theorem c_Tree_count (l : Launch) (dC : Nat → ClassId) (dI : Nat → Nat → Nat) (cI cT : ClassId) (g : Nat → Nat) (a : RS) (r : Int32) (sz : Nat) (L : Nat) (hok : okR L a) (hL : L < 500000) : Met l yX1_count wsX1_count ({ frames := 3, cells := 0, slots := 0, locals := 64 }) (va_Pc [.ref (g 0), .int r] (zPW (dC, dI) vwCl cI cT (wR g cI cT a) sz)) (zQi sz (aCount a r)) 0 0 (zfr sz) := by
  refine Met.ofW (cc := cX1_count) (maxL := 3) (ret := (some .int)) (by decide) rfl ?_
  intro p e s m args below meth c s₁ B hml hv
  obtain ⟨rfl, hsz, hP, hK, hD0⟩ := hv
  have hx := B.exec
  have hb := B.bytes
  have hr := B.returns
  have hts := atoms_spec (ws := wsX1_count) B.pre
  have hown : s.vm.findClass RX1 = some m.cls := findClass_of_methodNamed B.named
  have hlocks := B.notSynchronized
  subst hsz
  have hA : ∀ q : Nat, s.heap.size ≤ q → (fun q : Nat => s.heap.size ≤ q) q := fun _ h => h
  have hS : va_S (fun q : Nat => s.heap.size ≤ q) s.heap s.heap [] := va_S.rf
  have hD := hD0
  have hl := lv_entry ([.ref (g 0), .int r]) (n := 3) (Nat.le_of_ble_eq_true rfl)
  rw [lg_entry_eq]
  generalize (lg_sl ([.ref (g 0), .int r]) ++ List.replicate (3 - (lg_sl ([.ref (g 0), .int r])).length) Slot.unset).toArray = ls at hl ⊢
  have hl : lv_has ls 3 [(0, .ref (g 0)), (1, .int r)] := hl
  have hok3 : okT (tsel a 3) := hok.1 3 (by decide)
  have hlat : rL a ≤ L := hok.2.2
  refine lv_aload_n hx hb dX1_count_0 rfl (lv_at hl 0 rfl) ?_
  refine lv_iload_n hx hb dX1_count_1 rfl (lv_at hl 1 rfl) ?_
  refine zroi (va_runV (As := [.int r]) (rest := []) ⟨hx, hb, hml, hown, hts⟩ (c_Tree_stateOfReader l dC dI cI cT g a r s.heap.size L hok hL) (cwV 1 hts gX1_count_X1_stateOfReader rfl rfl rfl (by decide +kernel) ⟨Nat.le_of_ble_eq_true rfl, Nat.le_of_ble_eq_true rfl⟩) (zpreV hK hP hD rfl 0 rfl) rfl rfl hl.1 rfl (lv_room (Nat.le_of_ble_eq_true rfl)) dX1_count_2 ⟨Nat.le_of_ble_eq_true rfl, Nat.le_of_ble_eq_true rfl⟩) hP hS hA (fun H locs hP hS => ?_)
  refine lv_istore_n (lv' := [(2, .int (aSt a r)), (0, .ref (g 0)), (1, .int r)]) hx hb dX1_count_5 rfl hl (by decide) rfl (fun ls hl => ?_)
  refine lv_iload_n hx hb dX1_count_6 rfl (lv_at hl 0 rfl) ?_
  refine lv_if_ne (tgt := 21) hx hb dX1_count_7 (by decide) (fun h_7 => ?_) (fun h_7 => ?_)
  · refine lv_iload_n hx hb dX1_count_21 rfl (lv_at hl 0 rfl) ?_
    exact W.iret (v := aSt a r) hx hb hr (fun t9 ht9 hW9 => ⟨⟨_, (), rfl, (if_neg h_7).symm, trivial⟩, hS.F ht9⟩) hS.2.2 dX1_count_22
  · refine lv_aload_n hx hb dX1_count_10 rfl (lv_at hl 1 rfl) ?_
    refine lv_iload_n hx hb dX1_count_11 rfl (lv_at hl 2 rfl) ?_
    refine zror (va_runV (As := [.int r]) (rest := []) ⟨hx, hb, hml, hown, hts⟩ (c_Tree_tableOfReader l dC dI cI cT g a r H.size L hok hL h_7) (cwV 1 hts gX1_count_X1_tableOfReader rfl rfl rfl (by decide +kernel) ⟨Nat.le_of_ble_eq_true rfl, Nat.le_of_ble_eq_true rfl⟩) (zpreV hK hP hD rfl 0 rfl) rfl rfl hl.1 rfl (lv_room (Nat.le_of_ble_eq_true rfl)) dX1_count_12 ⟨Nat.le_of_ble_eq_true rfl, Nat.le_of_ble_eq_true rfl⟩) hP hS hA (fun H locs hP hS => ?_)
    have hPt := wR_t hP (aTb_lt a r)
    have hDt := wR_d hD (aTb_lt a r)
    have hokt : okT (tsel a (aTb a r)) := hok.1 _ (aTb_lt a r)
    have hn : (tsel a (aTb a r)).1 ≤ 400 := hokt.1
    refine va_get (D := (dC, dI)) (ci := 0) (v := .int (nI ((tsel a (aTb a r)).1))) (C := RX0) (T := TX0) (N := 4) hx hb hts (by decide +kernel) hown hK hPt 0 rfl rfl 3 (by decide) (hts (.fieldLink RX1 40 "RevisionTree$Table" "held" "I") (by decide +kernel)) (fun _ h9 => h9) rfl dX1_count_15 ?_
    refine lv_goto (tgt := 22) hx hb dX1_count_18 (by decide) ?_
    exact W.iret (v := nI ((tsel a (aTb a r)).1)) hx hb hr (fun t9 ht9 hW9 => ⟨⟨_, (), rfl, (if_pos h_7).symm, trivial⟩, hS.F ht9⟩) hS.2.2 dX1_count_22
set_option maxHeartbeats 4000000 in
set_option maxRecDepth 100000 in
/-- digest -/
theorem c_Tree_digest (l : Launch) (dC : Nat → ClassId) (dI : Nat → Nat → Nat) (cI cT : ClassId) (g : Nat → Nat) (a : RS) (r : Int32) (sz : Nat) (L : Nat) (hok : okR L a) (hL : L < 500000) : Met l yX1_digest wsX1_digest ({ frames := 3, cells := 0, slots := 0, locals := 64 }) (va_Pc [.ref (g 0), .int r] (zPW (dC, dI) vwCl cI cT (wR g cI cT a) sz)) (zQi sz (aDigest a r)) 0 0 (zfr sz) := by
  refine Met.ofW (cc := cX1_digest) (maxL := 3) (ret := (some .int)) (by decide) rfl ?_
  intro p e s m args below meth c s₁ B hml hv
  obtain ⟨rfl, hsz, hP, hK, hD0⟩ := hv
  have hx := B.exec
  have hb := B.bytes
  have hr := B.returns
  have hts := atoms_spec (ws := wsX1_digest) B.pre
  have hown : s.vm.findClass RX1 = some m.cls := findClass_of_methodNamed B.named
  have hlocks := B.notSynchronized
  subst hsz
  have hA : ∀ q : Nat, s.heap.size ≤ q → (fun q : Nat => s.heap.size ≤ q) q := fun _ h => h
  have hS : va_S (fun q : Nat => s.heap.size ≤ q) s.heap s.heap [] := va_S.rf
  have hD := hD0
  have hl := lv_entry ([.ref (g 0), .int r]) (n := 3) (Nat.le_of_ble_eq_true rfl)
  rw [lg_entry_eq]
  generalize (lg_sl ([.ref (g 0), .int r]) ++ List.replicate (3 - (lg_sl ([.ref (g 0), .int r])).length) Slot.unset).toArray = ls at hl ⊢
  have hl : lv_has ls 3 [(0, .ref (g 0)), (1, .int r)] := hl
  have hok3 : okT (tsel a 3) := hok.1 3 (by decide)
  have hlat : rL a ≤ L := hok.2.2
  refine lv_aload_n hx hb dX1_digest_0 rfl (lv_at hl 0 rfl) ?_
  refine lv_iload_n hx hb dX1_digest_1 rfl (lv_at hl 1 rfl) ?_
  refine zroi (va_runV (As := [.int r]) (rest := []) ⟨hx, hb, hml, hown, hts⟩ (c_Tree_stateOfReader l dC dI cI cT g a r s.heap.size L hok hL) (cwV 1 hts gX1_digest_X1_stateOfReader rfl rfl rfl (by decide +kernel) ⟨Nat.le_of_ble_eq_true rfl, Nat.le_of_ble_eq_true rfl⟩) (zpreV hK hP hD rfl 0 rfl) rfl rfl hl.1 rfl (lv_room (Nat.le_of_ble_eq_true rfl)) dX1_digest_2 ⟨Nat.le_of_ble_eq_true rfl, Nat.le_of_ble_eq_true rfl⟩) hP hS hA (fun H locs hP hS => ?_)
  refine lv_istore_n (lv' := [(2, .int (aSt a r)), (0, .ref (g 0)), (1, .int r)]) hx hb dX1_digest_5 rfl hl (by decide) rfl (fun ls hl => ?_)
  refine lv_iload_n hx hb dX1_digest_6 rfl (lv_at hl 0 rfl) ?_
  refine lv_if_ne (tgt := 21) hx hb dX1_digest_7 (by decide) (fun h_7 => ?_) (fun h_7 => ?_)
  · refine lv_iload_n hx hb dX1_digest_21 rfl (lv_at hl 0 rfl) ?_
    exact W.iret (v := aSt a r) hx hb hr (fun t9 ht9 hW9 => ⟨⟨_, (), rfl, (if_neg h_7).symm, trivial⟩, hS.F ht9⟩) hS.2.2 dX1_digest_22
  · refine lv_aload_n hx hb dX1_digest_10 rfl (lv_at hl 1 rfl) ?_
    refine lv_iload_n hx hb dX1_digest_11 rfl (lv_at hl 2 rfl) ?_
    refine zror (va_runV (As := [.int r]) (rest := []) ⟨hx, hb, hml, hown, hts⟩ (c_Tree_tableOfReader l dC dI cI cT g a r H.size L hok hL h_7) (cwV 1 hts gX1_digest_X1_tableOfReader rfl rfl rfl (by decide +kernel) ⟨Nat.le_of_ble_eq_true rfl, Nat.le_of_ble_eq_true rfl⟩) (zpreV hK hP hD rfl 0 rfl) rfl rfl hl.1 rfl (lv_room (Nat.le_of_ble_eq_true rfl)) dX1_digest_12 ⟨Nat.le_of_ble_eq_true rfl, Nat.le_of_ble_eq_true rfl⟩) hP hS hA (fun H locs hP hS => ?_)
    have hPt := wR_t hP (aTb_lt a r)
    have hDt := wR_d hD (aTb_lt a r)
    have hokt : okT (tsel a (aTb a r)) := hok.1 _ (aTb_lt a r)
    have hn : (tsel a (aTb a r)).1 ≤ 400 := hokt.1
    refine zroi (va_runV (As := []) (rest := []) ⟨hx, hb, hml, hown, hts⟩ (c_Table_fold l dC dI cI cT (g (3 + 4 * aTb a r)) (g (4 + 4 * aTb a r)) (g (5 + 4 * aTb a r)) (g (6 + 4 * aTb a r)) (tsel a (aTb a r)) H.size hn) (cwV 0 hts gX1_digest_X0_fold rfl rfl rfl (by decide +kernel) ⟨Nat.le_of_ble_eq_true rfl, Nat.le_of_ble_eq_true rfl⟩) (zpreV hK hPt hDt rfl 0 rfl) rfl rfl hl.1 rfl (lv_room (Nat.le_of_ble_eq_true rfl)) dX1_digest_15 ⟨Nat.le_of_ble_eq_true rfl, Nat.le_of_ble_eq_true rfl⟩) hP hS hA (fun H locs hP hS => ?_)
    have hPt := wR_t hP (aTb_lt a r)
    have hDt := wR_d hD (aTb_lt a r)
    refine lv_goto (tgt := 22) hx hb dX1_digest_18 (by decide) ?_
    exact W.iret (v := tDg (tsel a (aTb a r))) hx hb hr (fun t9 ht9 hW9 => ⟨⟨_, (), rfl, (if_pos h_7).symm, trivial⟩, hS.F ht9⟩) hS.2.2 dX1_digest_22
end
section
set_option maxHeartbeats 4000000 in
set_option maxRecDepth 100000 in
/-- put -/
theorem c_Tree_put (l : Launch) (dC : Nat → ClassId) (dI : Nat → Nat → Nat) (cI cT : ClassId) (g : Nat → Nat) (a : RS) (k v z : Int32) (sz : Nat) (L : Nat) (hok : okR L a) (hL : L < 500000) : Met l yX1_put wsX1_put ({ frames := 3, cells := 0, slots := 0, locals := 66 }) (va_Pc [.ref (g 0), .int k, .int v, .int z] (zPW (dC, dI) vwCl cI cT (wR g cI cT a) sz)) (va_Qi (fun (r9 : Int32) (u9 : RS) => r9 = (aPut a k v z).1 ∧ eqR u9 (aPut a k v z).2) (fun u t => va_P (dC, dI) vwCl (wR g cI cT u) t.heap) (va_A (wR g cI cT a) sz)) 0 0 (va_A (wR g cI cT a) sz) := by
  refine Met.ofW (cc := cX1_put) (maxL := 4) (ret := (some .int)) (by decide) rfl ?_
  intro p e s m args below meth c s₁ B hml hv
  obtain ⟨rfl, hsz, hP, hK, hD0⟩ := hv
  have hx := B.exec
  have hb := B.bytes
  have hr := B.returns
  have hts := atoms_spec (ws := wsX1_put) B.pre
  have hown : s.vm.findClass RX1 = some m.cls := findClass_of_methodNamed B.named
  have hlocks := B.notSynchronized
  subst hsz
  have hD := hD0.self (sz := s.heap.size)
  generalize hAe : va_A (wR g cI cT a) s.heap.size = A at hD ⊢
  have hA : ∀ q : Nat, s.heap.size ≤ q → A q := fun q h => by rw [← hAe]; exact Or.inr h
  have hS : va_S A s.heap s.heap [] := va_S.rf
  have hl := lv_entry ([.ref (g 0), .int k, .int v, .int z]) (n := 4) (Nat.le_of_ble_eq_true rfl)
  rw [lg_entry_eq]
  generalize (lg_sl ([.ref (g 0), .int k, .int v, .int z]) ++ List.replicate (4 - (lg_sl ([.ref (g 0), .int k, .int v, .int z])).length) Slot.unset).toArray = ls at hl ⊢
  have hl : lv_has ls 4 [(0, .ref (g 0)), (1, .int k), (2, .int v), (3, .int z)] := hl
  have hok3 : okT (tsel a 3) := hok.1 3 (by decide)
  have hlat : rL a ≤ L := hok.2.2
  refine lv_iload_n hx hb dX1_put_0 rfl (lv_at hl 3 rfl) ?_
  refine lv_if_lt (tgt := 11) hx hb dX1_put_1 (by decide) (fun h_1 => ?_) (fun h_1 => ?_)
  · refine lv_iconst (v := (-1)) hx hb dX1_put_11 (by decide) ?_
    exact W.iret (v := (-1)) hx hb hr (fun t9 ht9 hW9 => ⟨⟨_, a, rfl, by unfold aPut; rw [if_pos (show z < 0 ∨ 300 < z from Or.inl h_1)]; exact ⟨rfl, eqR_rf⟩, by show va_P _ _ _ t9.heap; rw [ht9]; exact hP⟩, hS.F ht9⟩) hS.2.2 dX1_put_12
  · refine lv_iload_n hx hb dX1_put_4 rfl (lv_at hl 3 rfl) ?_
    refine lv_sipush (v := nI 300) hx hb dX1_put_5 (by decide) ?_
    refine lv_icmp_le (tgt := 13) hx hb dX1_put_8 (by decide) (fun h_8 => ?_) (fun h_8 => ?_)
    · refine lv_aload_n hx hb dX1_put_13 rfl (lv_at hl 0 rfl) ?_
      refine va_get (D := (dC, dI)) (ci := 1) (v := .ref (g 15)) (C := RX1) (T := TX1) (N := 4) hx hb hts (by decide +kernel) hown hK hP 0 rfl rfl 0 (by decide) (hts (.fieldLink RX1 10 "RevisionTree" "worked" "LRevisionTree$Table;") (by decide +kernel)) (fun _ h9 => h9) rfl dX1_put_14 ?_
      refine lv_iload_n hx hb dX1_put_17 rfl (lv_at hl 1 rfl) ?_
      refine lv_iload_n hx hb dX1_put_18 rfl (lv_at hl 2 rfl) ?_
      refine lv_iload_n hx hb dX1_put_19 rfl (lv_at hl 3 rfl) ?_
      refine zwri (w1 := fun u : TB => wT (g 15) (g 16) (g 17) (g 18) cI u) (va_runV (As := [.int k, .int v, .int z]) (rest := []) ⟨hx, hb, hml, hown, hts⟩ (c_Table_enter l dC dI cI cT (g 15) (g 16) (g 17) (g 18) (tsel a 3) k v z s.heap.size hok3) (cwV 3 hts gX1_put_X0_enter rfl rfl rfl (by decide +kernel) ⟨Nat.le_of_ble_eq_true rfl, Nat.le_of_ble_eq_true rfl⟩) (zpreV hK (hP.sub [15, 16, 17, 18] rfl) (hD.sub [15, 16, 17, 18] (by decide) rfl) rfl 0 rfl) rfl rfl hl.1 rfl (lv_room (Nat.le_of_ble_eq_true rfl)) dX1_put_20 ⟨Nat.le_of_ble_eq_true rfl, Nat.le_of_ble_eq_true rfl⟩) hP hD hS hA [15, 16, 17, 18] rfl (fun _ => rfl) (fun _ => rfl) (fun r u H locs hw hP hD hS => ?_)
      have hP : va_P (dC, dI) vwCl (wR g cI cT (tset a 3 u)) H := hP
      have hD : va_D A (wR g cI cT (tset a 3 u)) := hD
      exact W.iret (v := r) hx hb hr (fun t9 ht9 hW9 => ⟨⟨_, (tset a 3 u), rfl, by unfold aPut; rw [if_neg (fun q => q.elim h_1 (i_nl h_8))]; exact ⟨hw.1, tset_eq (by decide) eqR_rf hw.2⟩, by show va_P _ _ _ t9.heap; rw [ht9]; exact hP⟩, hS.F ht9⟩) hS.2.2 dX1_put_23
    · refine lv_iconst (v := (-1)) hx hb dX1_put_11 (by decide) ?_
      exact W.iret (v := (-1)) hx hb hr (fun t9 ht9 hW9 => ⟨⟨_, a, rfl, by unfold aPut; rw [if_pos (show z < 0 ∨ 300 < z from Or.inr (i_lt h_8))]; exact ⟨rfl, eqR_rf⟩, by show va_P _ _ _ t9.heap; rw [ht9]; exact hP⟩, hS.F ht9⟩) hS.2.2 dX1_put_12
set_option maxHeartbeats 4000000 in
set_option maxRecDepth 100000 in
/-- some -/
theorem c_Tree_some (l : Launch) (dC : Nat → ClassId) (dI : Nat → Nat → Nat) (cI cT : ClassId) (g : Nat → Nat) (a : RS) (fr stp many v : Int32) (sz : Nat) (L : Nat) (hok : okR L a) (hL : L < 500000) : Met l yX1_some wsX1_some ({ frames := 3, cells := 0, slots := 0, locals := 66 }) (va_Pc [.ref (g 0), .int fr, .int stp, .int many, .int v] (zPW (dC, dI) vwCl cI cT (wR g cI cT a) sz)) (va_Qi (fun (r9 : Int32) (u9 : RS) => r9 = (aSome a fr stp many v).1 ∧ eqR u9 (aSome a fr stp many v).2) (fun u t => va_P (dC, dI) vwCl (wR g cI cT u) t.heap) (va_A (wR g cI cT a) sz)) 0 0 (va_A (wR g cI cT a) sz) := by
  refine Met.ofW (cc := cX1_some) (maxL := 7) (ret := (some .int)) (by decide) rfl ?_
  intro p e s m args below meth c s₁ B hml hv
  obtain ⟨rfl, hsz, hP, hK, hD0⟩ := hv
  have hx := B.exec
  have hb := B.bytes
  have hr := B.returns
  have hts := atoms_spec (ws := wsX1_some) B.pre
  have hown : s.vm.findClass RX1 = some m.cls := findClass_of_methodNamed B.named
  have hlocks := B.notSynchronized
  subst hsz
  have hD := hD0.self (sz := s.heap.size)
  generalize hAe : va_A (wR g cI cT a) s.heap.size = A at hD ⊢
  have hA : ∀ q : Nat, s.heap.size ≤ q → A q := fun q h => by rw [← hAe]; exact Or.inr h
  have hS : va_S A s.heap s.heap [] := va_S.rf
  have hl := lv_entry ([.ref (g 0), .int fr, .int stp, .int many, .int v]) (n := 7) (Nat.le_of_ble_eq_true rfl)
  rw [lg_entry_eq]
  generalize (lg_sl ([.ref (g 0), .int fr, .int stp, .int many, .int v]) ++ List.replicate (7 - (lg_sl ([.ref (g 0), .int fr, .int stp, .int many, .int v])).length) Slot.unset).toArray = ls at hl ⊢
  have hl : lv_has ls 7 [(0, .ref (g 0)), (1, .int fr), (2, .int stp), (3, .int many), (4, .int v)] := hl
  have hok3 : okT (tsel a 3) := hok.1 3 (by decide)
  have hlat : rL a ≤ L := hok.2.2
  refine lv_iload_n hx hb dX1_some_0 rfl (lv_at hl 3 rfl) ?_
  refine lv_iconst (v := nI 1) hx hb dX1_some_1 (by decide) ?_
  refine lv_icmp_lt (tgt := 11) hx hb dX1_some_2 (by decide) (fun h_2 => ?_) (fun h_2 => ?_)
  · refine lv_iconst (v := (-1)) hx hb dX1_some_11 (by decide) ?_
    exact W.iret (v := (-1)) hx hb hr (fun t9 ht9 hW9 => ⟨⟨_, a, rfl, by unfold aSome; rw [if_pos (show many < 1 ∨ 60 < many from Or.inl h_2)]; exact ⟨rfl, eqR_rf⟩, by show va_P _ _ _ t9.heap; rw [ht9]; exact hP⟩, hS.F ht9⟩) hS.2.2 dX1_some_12
  · refine lv_iload_n hx hb dX1_some_5 rfl (lv_at hl 3 rfl) ?_
    refine lv_bipush (v := nI 60) hx hb dX1_some_6 (by decide) ?_
    refine lv_icmp_le (tgt := 13) hx hb dX1_some_8 (by decide) (fun h_8 => ?_) (fun h_8 => ?_)
    · obtain ⟨mm, hm1, hm2, rfl, em⟩ := many_in h_2 (i_nl h_8)
      refine lv_iconst (v := nI 0) hx hb dX1_some_13 (by decide) ?_
      refine lv_istore (lv' := [(5, .int (nI 0)), (0, .ref (g 0)), (1, .int fr), (2, .int stp), (3, .int (nI mm)), (4, .int v)]) hx hb dX1_some_14 hl (by decide) rfl (fun ls hl => ?_)
      refine lv_iconst (v := nI 0) hx hb dX1_some_16 (by decide) ?_
      refine lv_istore (lv' := [(6, .int (nI 0)), (5, .int (nI 0)), (0, .ref (g 0)), (1, .int fr), (2, .int stp), (3, .int (nI mm)), (4, .int v)]) hx hb dX1_some_17 hl (by decide) rfl (fun ls hl => ?_)
      refine zloop (σ := Nat × TB) (fun x H locs ls => match x with | (i, X) => (i ≤ mm ∧ eqT X (someF (tsel a 3) fr stp v i).2) ∧ va_P (dC, dI) vwCl (wR g cI cT (tset a 3 X)) H ∧ va_D A (wR g cI cT (tset a 3 X)) ∧ va_S A s.heap H locs ∧ lv_has ls 7 [(0, .ref (g 0)), (1, .int fr), (2, .int stp), (3, .int (nI mm)), (4, .int v), (5, .int (nI (someF (tsel a 3) fr stp v i).1)), (6, .int (nI i))]) (fun x => mm - x.1) ?_ (0, tsel a 3) ⟨⟨Nat.zero_le _, eqT_rf⟩, hP, hD, hS, lv_sub hl [2, 3, 4, 5, 6, 1, 0] rfl⟩
      rintro ⟨i, X⟩ H locs ls ⟨⟨hi, hq⟩, hP, hD, hS, hl⟩ ih
      refine lv_iload hx hb dX1_some_19 (lv_at hl 6 rfl) ?_
      refine lv_iload_n hx hb dX1_some_21 rfl (lv_at hl 3 rfl) ?_
      refine zge (tgt := 63) hx hb dX1_some_22 (by decide) (by omega) (by omega) (fun h_22 => ?_) (fun h_22 => ?_)
      · refine lv_iload hx hb dX1_some_63 (lv_at hl 5 rfl) ?_
        have ei : i = mm := by omega
        subst ei
        exact W.iret (v := nI ((someF (tsel a 3) fr stp v i).1)) hx hb hr (fun t9 ht9 hW9 => ⟨⟨_, (tset a 3 X), rfl, by unfold aSome; rw [if_neg (fun q => q.elim h_2 (i_nl h_8)), em]; exact ⟨rfl, tset_eq (by decide) eqR_rf hq⟩, by show va_P _ _ _ t9.heap; rw [ht9]; exact hP⟩, hS.F ht9⟩) hS.2.2 dX1_some_65
      · refine lv_aload_n hx hb dX1_some_25 rfl (lv_at hl 0 rfl) ?_
        refine va_get (D := (dC, dI)) (ci := 1) (v := .ref (g 15)) (C := RX1) (T := TX1) (N := 4) hx hb hts (by decide +kernel) hown hK hP 0 rfl rfl 0 (by decide) (hts (.fieldLink RX1 10 "RevisionTree" "worked" "LRevisionTree$Table;") (by decide +kernel)) (fun _ h9 => h9) rfl dX1_some_26 ?_
        refine lv_iload_n hx hb dX1_some_29 rfl (lv_at hl 1 rfl) ?_
        refine lv_iload hx hb dX1_some_30 (lv_at hl 6 rfl) ?_
        refine lv_iload_n hx hb dX1_some_32 rfl (lv_at hl 2 rfl) ?_
        refine lv_imul hx hb dX1_some_33 ?_
        refine lv_iadd hx hb dX1_some_34 ?_
        refine lv_iload hx hb dX1_some_35 (lv_at hl 4 rfl) ?_
        refine lv_iload hx hb dX1_some_37 (lv_at hl 6 rfl) ?_
        refine lv_iadd hx hb dX1_some_39 ?_
        refine lv_iload hx hb dX1_some_40 (lv_at hl 4 rfl) ?_
        refine lv_iload hx hb dX1_some_42 (lv_at hl 6 rfl) ?_
        refine zroi (va_runS (As := [.int v, .int (nI i)]) (rest := [.int (v + (nI i)), .int (fr + ((nI i) * stp)), .ref (g 15)]) ⟨hx, hb, hml, hown, hts⟩ (c_Tree_sizeInRow l dC dI cI cT v i H.size (by omega)) (va_cwS 2 hts gX1_some_X1_sizeInRow rfl rfl rfl (by decide +kernel) ⟨Nat.le_of_ble_eq_true rfl, Nat.le_of_ble_eq_true rfl⟩) (zpreS hK (wc := []) (hP.sub [] rfl) (hD.sub [] (by decide) rfl)) rfl rfl hl.1 rfl (lv_room (Nat.le_of_ble_eq_true rfl)) dX1_some_44 ⟨Nat.le_of_ble_eq_true rfl, Nat.le_of_ble_eq_true rfl⟩) hP hS hA (fun H locs hP hS => ?_)
        refine zwri (w1 := fun u : TB => wT (g 15) (g 16) (g 17) (g 18) cI u) (va_runV (As := [.int (fr + ((nI i) * stp)), .int (v + (nI i)), .int (zsz v i)]) (rest := []) ⟨hx, hb, hml, hown, hts⟩ (c_Table_enter l dC dI cI cT (g 15) (g 16) (g 17) (g 18) X (fr + nI i * stp) (v + nI i) (zsz v i) H.size (okT_eq (eqT_sy hq) (someF_ok hok3 _ _ _ _))) (cwV 3 hts gX1_some_X0_enter rfl rfl rfl (by decide +kernel) ⟨Nat.le_of_ble_eq_true rfl, Nat.le_of_ble_eq_true rfl⟩) (zpreV hK (hP.sub [15, 16, 17, 18] rfl) (hD.sub [15, 16, 17, 18] (by decide) rfl) rfl 0 rfl) rfl rfl hl.1 rfl (lv_room (Nat.le_of_ble_eq_true rfl)) dX1_some_47 ⟨Nat.le_of_ble_eq_true rfl, Nat.le_of_ble_eq_true rfl⟩) hP hD hS hA [15, 16, 17, 18] rfl (fun _ => rfl) (fun _ => rfl) (fun r u H locs hw hP hD hS => ?_)
        have hP : va_P (dC, dI) vwCl (wR g cI cT (tset a 3 u)) H := hP
        have hD : va_D A (wR g cI cT (tset a 3 u)) := hD
        refine lv_iconst (v := nI 1) hx hb dX1_some_50 (by decide) ?_
        refine lv_icmp_ne (tgt := 57) hx hb dX1_some_51 (by decide) (fun h_51 => ?_) (fun h_51 => ?_)
        · refine lv_iinc (v := nI (i + 1)) (lv' := [(6, .int (nI (i + 1))), (0, .ref (g 0)), (1, .int fr), (2, .int stp), (3, .int (nI mm)), (4, .int v), (5, .int (nI ((someF (tsel a 3) fr stp v i).1)))]) hx hb dX1_some_57 hl (k := 6) rfl (zinc _) (by decide) rfl (fun ls hl => ?_)
          refine lv_goto (tgt := 19) hx hb dX1_some_60 (by decide) ?_
          have ec : (someF (tsel a 3) fr stp v (i + 1)).1 = (someF (tsel a 3) fr stp v i).1 := if_neg (fun q => h_51 (by rw [hw.1, (tEnter_eq hq (fr + nI i * stp) (v + nI i) (zsz v i)).1]; exact q))
          exact ih (i + 1, u) _ _ _ ⟨⟨by omega, eqT_tr hw.2 (tEnter_eq hq (fr + nI i * stp) (v + nI i) (zsz v i)).2⟩, hP, hD, hS, by rw [ec]; exact lv_sub hl [1, 2, 3, 4, 5, 6, 0] rfl⟩ (by show mm - (i + 1) < mm - i; omega)
        · refine lv_iinc (v := nI (((someF (tsel a 3) fr stp v i).1) + 1)) (lv' := [(5, .int (nI (((someF (tsel a 3) fr stp v i).1) + 1))), (0, .ref (g 0)), (1, .int fr), (2, .int stp), (3, .int (nI mm)), (4, .int v), (6, .int (nI i))]) hx hb dX1_some_54 hl (k := 5) rfl (zinc _) (by decide) rfl (fun ls hl => ?_)
          refine lv_iinc (v := nI (i + 1)) (lv' := [(6, .int (nI (i + 1))), (5, .int (nI (((someF (tsel a 3) fr stp v i).1) + 1))), (0, .ref (g 0)), (1, .int fr), (2, .int stp), (3, .int (nI mm)), (4, .int v)]) hx hb dX1_some_57 hl (k := 6) rfl (zinc _) (by decide) rfl (fun ls hl => ?_)
          refine lv_goto (tgt := 19) hx hb dX1_some_60 (by decide) ?_
          have ec : (someF (tsel a 3) fr stp v (i + 1)).1 = (someF (tsel a 3) fr stp v i).1 + 1 := if_pos (by rw [← (tEnter_eq hq (fr + nI i * stp) (v + nI i) (zsz v i)).1, ← hw.1]; exact h_51)
          exact ih (i + 1, u) _ _ _ ⟨⟨by omega, eqT_tr hw.2 (tEnter_eq hq (fr + nI i * stp) (v + nI i) (zsz v i)).2⟩, hP, hD, hS, by rw [ec]; exact lv_sub hl [2, 3, 4, 5, 6, 1, 0] rfl⟩ (by show mm - (i + 1) < mm - i; omega)
    · refine lv_iconst (v := (-1)) hx hb dX1_some_11 (by decide) ?_
      exact W.iret (v := (-1)) hx hb hr (fun t9 ht9 hW9 => ⟨⟨_, a, rfl, by unfold aSome; rw [if_pos (show many < 1 ∨ 60 < many from Or.inr (i_lt h_8))]; exact ⟨rfl, eqR_rf⟩, by show va_P _ _ _ t9.heap; rw [ht9]; exact hP⟩, hS.F ht9⟩) hS.2.2 dX1_some_12
set_option maxHeartbeats 4000000 in
set_option maxRecDepth 100000 in
/-- remove -/
theorem c_Tree_remove (l : Launch) (dC : Nat → ClassId) (dI : Nat → Nat → Nat) (cI cT : ClassId) (g : Nat → Nat) (a : RS) (k : Int32) (sz : Nat) (L : Nat) (hok : okR L a) (hL : L < 500000) : Met l yX1_remove wsX1_remove ({ frames := 3, cells := 0, slots := 0, locals := 63 }) (va_Pc [.ref (g 0), .int k] (zPW (dC, dI) vwCl cI cT (wR g cI cT a) sz)) (va_Qi (fun (r9 : Int32) (u9 : RS) => r9 = (aRemove a k).1 ∧ eqR u9 (aRemove a k).2) (fun u t => va_P (dC, dI) vwCl (wR g cI cT u) t.heap) (va_A (wR g cI cT a) sz)) 0 0 (va_A (wR g cI cT a) sz) := by
  refine Met.ofW (cc := cX1_remove) (maxL := 2) (ret := (some .int)) (by decide) rfl ?_
  intro p e s m args below meth c s₁ B hml hv
  obtain ⟨rfl, hsz, hP, hK, hD0⟩ := hv
  have hx := B.exec
  have hb := B.bytes
  have hr := B.returns
  have hts := atoms_spec (ws := wsX1_remove) B.pre
  have hown : s.vm.findClass RX1 = some m.cls := findClass_of_methodNamed B.named
  have hlocks := B.notSynchronized
  subst hsz
  have hD := hD0.self (sz := s.heap.size)
  generalize hAe : va_A (wR g cI cT a) s.heap.size = A at hD ⊢
  have hA : ∀ q : Nat, s.heap.size ≤ q → A q := fun q h => by rw [← hAe]; exact Or.inr h
  have hS : va_S A s.heap s.heap [] := va_S.rf
  have hl := lv_entry ([.ref (g 0), .int k]) (n := 2) (Nat.le_of_ble_eq_true rfl)
  rw [lg_entry_eq]
  generalize (lg_sl ([.ref (g 0), .int k]) ++ List.replicate (2 - (lg_sl ([.ref (g 0), .int k])).length) Slot.unset).toArray = ls at hl ⊢
  have hl : lv_has ls 2 [(0, .ref (g 0)), (1, .int k)] := hl
  have hok3 : okT (tsel a 3) := hok.1 3 (by decide)
  have hlat : rL a ≤ L := hok.2.2
  refine lv_aload_n hx hb dX1_remove_0 rfl (lv_at hl 0 rfl) ?_
  refine va_get (D := (dC, dI)) (ci := 1) (v := .ref (g 15)) (C := RX1) (T := TX1) (N := 4) hx hb hts (by decide +kernel) hown hK hP 0 rfl rfl 0 (by decide) (hts (.fieldLink RX1 10 "RevisionTree" "worked" "LRevisionTree$Table;") (by decide +kernel)) (fun _ h9 => h9) rfl dX1_remove_1 ?_
  refine lv_iload_n hx hb dX1_remove_4 rfl (lv_at hl 1 rfl) ?_
  refine zwri (w1 := fun u : TB => wT (g 15) (g 16) (g 17) (g 18) cI u) (va_runV (As := [.int k]) (rest := []) ⟨hx, hb, hml, hown, hts⟩ (c_Table_drop l dC dI cI cT (g 15) (g 16) (g 17) (g 18) (tsel a 3) k s.heap.size hok3) (cwV 1 hts gX1_remove_X0_drop rfl rfl rfl (by decide +kernel) ⟨Nat.le_of_ble_eq_true rfl, Nat.le_of_ble_eq_true rfl⟩) (zpreV hK (hP.sub [15, 16, 17, 18] rfl) (hD.sub [15, 16, 17, 18] (by decide) rfl) rfl 0 rfl) rfl rfl hl.1 rfl (lv_room (Nat.le_of_ble_eq_true rfl)) dX1_remove_5 ⟨Nat.le_of_ble_eq_true rfl, Nat.le_of_ble_eq_true rfl⟩) hP hD hS hA [15, 16, 17, 18] rfl (fun _ => rfl) (fun _ => rfl) (fun r u H locs hw hP hD hS => ?_)
  have hP : va_P (dC, dI) vwCl (wR g cI cT (tset a 3 u)) H := hP
  have hD : va_D A (wR g cI cT (tset a 3 u)) := hD
  obtain ⟨rfl, hq⟩ := hw
  refine zifeq (tgt := 21) hx hb dX1_remove_8 (by decide) (fun h_8 => ?_) (fun h_8 => ?_)
  · refine lv_bipush (v := (-2)) hx hb dX1_remove_21 (by decide) ?_
    rw [tDrop_n h_8] at hq
    exact W.iret (v := (-2)) hx hb hr (fun t9 ht9 hW9 => ⟨⟨_, (tset a 3 u), rfl, by unfold aRemove; rw [if_neg h_8]; exact ⟨rfl, (tset_eq (by decide) eqR_rf hq : eqR (tset a 3 u) (tset a 3 (tsel a 3)))⟩, by show va_P _ _ _ t9.heap; rw [ht9]; exact hP⟩, hS.F ht9⟩) hS.2.2 dX1_remove_23
  · refine lv_aload_n hx hb dX1_remove_11 rfl (lv_at hl 0 rfl) ?_
    refine va_get (D := (dC, dI)) (ci := 1) (v := .ref (g 15)) (C := RX1) (T := TX1) (N := 4) hx hb hts (by decide +kernel) hown hK hP 0 rfl rfl 0 (by decide) (hts (.fieldLink RX1 10 "RevisionTree" "worked" "LRevisionTree$Table;") (by decide +kernel)) (fun _ h9 => h9) rfl dX1_remove_12 ?_
    refine va_get (D := (dC, dI)) (ci := 0) (v := .int (nI u.1)) (C := RX0) (T := TX0) (N := 4) hx hb hts (by decide +kernel) hown hK hP 15 rfl rfl 3 (by decide) (hts (.fieldLink RX1 40 "RevisionTree$Table" "held" "I") (by decide +kernel)) (fun _ h9 => h9) rfl dX1_remove_15 ?_
    refine lv_goto (tgt := 23) hx hb dX1_remove_18 (by decide) ?_
    exact W.iret (v := nI u.1) hx hb hr (fun t9 ht9 hW9 => ⟨⟨_, (tset a 3 u), rfl, by unfold aRemove; rw [if_pos h_8]; exact ⟨congrArg nI (by have h9 := hq.1; rw [tDrop_h h_8] at h9; exact h9), tset_eq (by decide) eqR_rf hq⟩, by show va_P _ _ _ t9.heap; rw [ht9]; exact hP⟩, hS.F ht9⟩) hS.2.2 dX1_remove_23
end
section
set_option maxHeartbeats 4000000 in
set_option maxRecDepth 100000 in
/-- commit -/
theorem c_Tree_commit (l : Launch) (dC : Nat → ClassId) (dI : Nat → Nat → Nat) (cI cT : ClassId) (g : Nat → Nat) (a : RS) (cut : Int32) (sz : Nat) (L : Nat) (hok : okR L a) (hL : L < 500000) : Met l yX1_commit wsX1_commit ({ frames := 2, cells := 0, slots := 0, locals := 43 }) (va_Pc [.ref (g 0), .int cut] (zPW (dC, dI) vwCl cI cT (wR g cI cT a) sz)) (va_Qi (fun (r9 : Int32) (u9 : RS) => r9 = (aCommit a cut).1 ∧ eqR u9 (aCommit a cut).2) (fun u t => va_P (dC, dI) vwCl (wR g cI cT u) t.heap) (va_A (wR g cI cT a) sz)) 0 0 (va_A (wR g cI cT a) sz) := by
  refine Met.ofW (cc := cX1_commit) (maxL := 2) (ret := (some .int)) (by decide) rfl ?_
  intro p e s m args below meth c s₁ B hml hv
  obtain ⟨rfl, hsz, hP, hK, hD0⟩ := hv
  have hx := B.exec
  have hb := B.bytes
  have hr := B.returns
  have hts := atoms_spec (ws := wsX1_commit) B.pre
  have hown : s.vm.findClass RX1 = some m.cls := findClass_of_methodNamed B.named
  have hlocks := B.notSynchronized
  subst hsz
  have hD := hD0.self (sz := s.heap.size)
  generalize hAe : va_A (wR g cI cT a) s.heap.size = A at hD ⊢
  have hA : ∀ q : Nat, s.heap.size ≤ q → A q := fun q h => by rw [← hAe]; exact Or.inr h
  have hS : va_S A s.heap s.heap [] := va_S.rf
  have hl := lv_entry ([.ref (g 0), .int cut]) (n := 2) (Nat.le_of_ble_eq_true rfl)
  rw [lg_entry_eq]
  generalize (lg_sl ([.ref (g 0), .int cut]) ++ List.replicate (2 - (lg_sl ([.ref (g 0), .int cut])).length) Slot.unset).toArray = ls at hl ⊢
  have hl : lv_has ls 2 [(0, .ref (g 0)), (1, .int cut)] := hl
  have hok3 : okT (tsel a 3) := hok.1 3 (by decide)
  have hlat : rL a ≤ L := hok.2.2
  refine lv_iload_n hx hb dX1_commit_0 rfl (lv_at hl 1 rfl) ?_
  refine lv_if_lt (tgt := 22) hx hb dX1_commit_1 (by decide) (fun h_1 => ?_) (fun h_1 => ?_)
  · refine lv_aload_n hx hb dX1_commit_22 rfl (lv_at hl 0 rfl) ?_
    refine lv_dup hx hb dX1_commit_23 rfl ?_
    refine va_get (D := (dC, dI)) (ci := 1) (v := .int (nI (rL a))) (C := RX1) (T := TX1) (N := 4) hx hb hts (by decide +kernel) hown hK hP 0 rfl rfl 3 (by decide) (hts (.fieldLink RX1 24 "RevisionTree" "latest" "I") (by decide +kernel)) (fun _ h9 => h9) rfl dX1_commit_24 ?_
    refine lv_iconst (v := nI 1) hx hb dX1_commit_27 (by decide) ?_
    refine lv_iadd hx hb dX1_commit_28 ?_
    refine zt (y := nI ((rL a) + 1)) (nI_add _ _) ?_
    refine va_put (D := (dC, dI)) (ci := 1) (v := .int (nI ((rL a) + 1))) (ty := .int) (C := RX1) (T := TX1) (N := 4) hx hb hts (by decide +kernel) tyX1 tyX1_ok nmX1 hown hK hP hD hS 0 rfl rfl 3 (by decide) (hts (.fieldLink RX1 24 "RevisionTree" "latest" "I") (by decide +kernel)) (fun _ h9 => h9) rfl (by decide +kernel) rfl rfl (Nat.le_of_ble_eq_true rfl) dX1_commit_29 (fun H locs hP hD hS => ?_)
    have hP : va_P (dC, dI) vwCl (wR g cI cT (rUp a)) H := hP
    have hD : va_D A (wR g cI cT (rUp a)) := hD
    refine lv_aload_n hx hb dX1_commit_32 rfl (lv_at hl 0 rfl) ?_
    refine lv_aload_n hx hb dX1_commit_33 rfl (lv_at hl 0 rfl) ?_
    refine va_get (D := (dC, dI)) (ci := 1) (v := .int (nI (rL a + 1))) (C := RX1) (T := TX1) (N := 4) hx hb hts (by decide +kernel) hown hK hP 0 rfl rfl 3 (by decide) (hts (.fieldLink RX1 24 "RevisionTree" "latest" "I") (by decide +kernel)) (fun _ h9 => h9) rfl dX1_commit_34 ?_
    refine zror (va_runV (As := [.int (nI (rL a + 1))]) (rest := []) ⟨hx, hb, hml, hown, hts⟩ (c_Tree_tableOfRevision l dC dI cI cT g (rUp a) (rL a + 1) H.size (by omega)) (cwV 1 hts gX1_commit_X1_tableOfRevision rfl rfl rfl (by decide +kernel) ⟨Nat.le_of_ble_eq_true rfl, Nat.le_of_ble_eq_true rfl⟩) (zpreV hK hP hD rfl 0 rfl) rfl rfl hl.1 rfl (lv_room (Nat.le_of_ble_eq_true rfl)) dX1_commit_37 ⟨Nat.le_of_ble_eq_true rfl, Nat.le_of_ble_eq_true rfl⟩) hP hS hA (fun H locs hP hS => ?_)
    refine lv_aload_n hx hb dX1_commit_40 rfl (lv_at hl 0 rfl) ?_
    refine va_get (D := (dC, dI)) (ci := 1) (v := .ref (g 15)) (C := RX1) (T := TX1) (N := 4) hx hb hts (by decide +kernel) hown hK hP 0 rfl rfl 0 (by decide) (hts (.fieldLink RX1 10 "RevisionTree" "worked" "LRevisionTree$Table;") (by decide +kernel)) (fun _ h9 => h9) rfl dX1_commit_41 ?_
    rcases (show (rL a + 1) % 3 = 0 ∨ (rL a + 1) % 3 = 1 ∨ (rL a + 1) % 3 = 2 by omega) with h3 | h3 | h3
    · rw [h3]
      refine zwrv (w1 := fun u : TB => wT (g 3) (g 4) (g 5) (g 6) cI u ++ wT (g 15) (g 16) (g 17) (g 18) cI (tsel (rUp a) 3)) (va_runV (As := [.ref (g 15)]) (rest := []) ⟨hx, hb, hml, hown, hts⟩ (c_Table_copyFrom l dC dI cI cT (g 3) (g 4) (g 5) (g 6) (g 15) (g 16) (g 17) (g 18) (tsel (rUp a) 0) (tsel (rUp a) 3) H.size (hok.1 3 (by decide)).1) (cwV 1 hts gX1_commit_X0_copyFrom rfl rfl rfl (by decide +kernel) ⟨Nat.le_of_ble_eq_true rfl, Nat.le_of_ble_eq_true rfl⟩) (zpreV hK (hP.sub [3, 4, 5, 6, 15, 16, 17, 18] rfl) (hD.sub [3, 4, 5, 6, 15, 16, 17, 18] (by decide) rfl) rfl 0 rfl) rfl rfl hl.1 rfl (lv_room (Nat.le_of_ble_eq_true rfl)) dX1_commit_44 ⟨Nat.le_of_ble_eq_true rfl, Nat.le_of_ble_eq_true rfl⟩) hP hD hS hA [3, 4, 5, 6, 15, 16, 17, 18] rfl (fun _ => rfl) (fun _ => rfl) (fun u H locs hw hP hD hS => ?_)
      have hq : eqT u (tsel a 3) := by rw [hw]; exact ⟨rfl, cpy_all, cpy_all, cpy_all⟩
      have hP : va_P (dC, dI) vwCl (wR g cI cT (tset (rUp a) 0 u)) H := hP
      have hD : va_D A (wR g cI cT (tset (rUp a) 0 u)) := hD
      refine lv_aload_n hx hb dX1_commit_47 rfl (lv_at hl 0 rfl) ?_
      refine va_get (D := (dC, dI)) (ci := 1) (v := .int (nI (rL a + 1))) (C := RX1) (T := TX1) (N := 4) hx hb hts (by decide +kernel) hown hK hP 0 rfl rfl 3 (by decide) (hts (.fieldLink RX1 24 "RevisionTree" "latest" "I") (by decide +kernel)) (fun _ h9 => h9) rfl dX1_commit_48 ?_
      exact W.iret (v := nI (rL a + 1)) hx hb hr (fun t9 ht9 hW9 => ⟨⟨_, (tset (rUp a) 0 u), rfl, by unfold aCommit; rw [if_pos h_1, h3]; exact ⟨rfl, tset_eq (by decide) eqR_rf hq⟩, by show va_P _ _ _ t9.heap; rw [ht9]; exact hP⟩, hS.F ht9⟩) hS.2.2 dX1_commit_51
    · rw [h3]
      refine zwrv (w1 := fun u : TB => wT (g 7) (g 8) (g 9) (g 10) cI u ++ wT (g 15) (g 16) (g 17) (g 18) cI (tsel (rUp a) 3)) (va_runV (As := [.ref (g 15)]) (rest := []) ⟨hx, hb, hml, hown, hts⟩ (c_Table_copyFrom l dC dI cI cT (g 7) (g 8) (g 9) (g 10) (g 15) (g 16) (g 17) (g 18) (tsel (rUp a) 1) (tsel (rUp a) 3) H.size (hok.1 3 (by decide)).1) (cwV 1 hts gX1_commit_X0_copyFrom rfl rfl rfl (by decide +kernel) ⟨Nat.le_of_ble_eq_true rfl, Nat.le_of_ble_eq_true rfl⟩) (zpreV hK (hP.sub [7, 8, 9, 10, 15, 16, 17, 18] rfl) (hD.sub [7, 8, 9, 10, 15, 16, 17, 18] (by decide) rfl) rfl 0 rfl) rfl rfl hl.1 rfl (lv_room (Nat.le_of_ble_eq_true rfl)) dX1_commit_44 ⟨Nat.le_of_ble_eq_true rfl, Nat.le_of_ble_eq_true rfl⟩) hP hD hS hA [7, 8, 9, 10, 15, 16, 17, 18] rfl (fun _ => rfl) (fun _ => rfl) (fun u H locs hw hP hD hS => ?_)
      have hq : eqT u (tsel a 3) := by rw [hw]; exact ⟨rfl, cpy_all, cpy_all, cpy_all⟩
      have hP : va_P (dC, dI) vwCl (wR g cI cT (tset (rUp a) 1 u)) H := hP
      have hD : va_D A (wR g cI cT (tset (rUp a) 1 u)) := hD
      refine lv_aload_n hx hb dX1_commit_47 rfl (lv_at hl 0 rfl) ?_
      refine va_get (D := (dC, dI)) (ci := 1) (v := .int (nI (rL a + 1))) (C := RX1) (T := TX1) (N := 4) hx hb hts (by decide +kernel) hown hK hP 0 rfl rfl 3 (by decide) (hts (.fieldLink RX1 24 "RevisionTree" "latest" "I") (by decide +kernel)) (fun _ h9 => h9) rfl dX1_commit_48 ?_
      exact W.iret (v := nI (rL a + 1)) hx hb hr (fun t9 ht9 hW9 => ⟨⟨_, (tset (rUp a) 1 u), rfl, by unfold aCommit; rw [if_pos h_1, h3]; exact ⟨rfl, tset_eq (by decide) eqR_rf hq⟩, by show va_P _ _ _ t9.heap; rw [ht9]; exact hP⟩, hS.F ht9⟩) hS.2.2 dX1_commit_51
    · rw [h3]
      refine zwrv (w1 := fun u : TB => wT (g 11) (g 12) (g 13) (g 14) cI u ++ wT (g 15) (g 16) (g 17) (g 18) cI (tsel (rUp a) 3)) (va_runV (As := [.ref (g 15)]) (rest := []) ⟨hx, hb, hml, hown, hts⟩ (c_Table_copyFrom l dC dI cI cT (g 11) (g 12) (g 13) (g 14) (g 15) (g 16) (g 17) (g 18) (tsel (rUp a) 2) (tsel (rUp a) 3) H.size (hok.1 3 (by decide)).1) (cwV 1 hts gX1_commit_X0_copyFrom rfl rfl rfl (by decide +kernel) ⟨Nat.le_of_ble_eq_true rfl, Nat.le_of_ble_eq_true rfl⟩) (zpreV hK (hP.sub [11, 12, 13, 14, 15, 16, 17, 18] rfl) (hD.sub [11, 12, 13, 14, 15, 16, 17, 18] (by decide) rfl) rfl 0 rfl) rfl rfl hl.1 rfl (lv_room (Nat.le_of_ble_eq_true rfl)) dX1_commit_44 ⟨Nat.le_of_ble_eq_true rfl, Nat.le_of_ble_eq_true rfl⟩) hP hD hS hA [11, 12, 13, 14, 15, 16, 17, 18] rfl (fun _ => rfl) (fun _ => rfl) (fun u H locs hw hP hD hS => ?_)
      have hq : eqT u (tsel a 3) := by rw [hw]; exact ⟨rfl, cpy_all, cpy_all, cpy_all⟩
      have hP : va_P (dC, dI) vwCl (wR g cI cT (tset (rUp a) 2 u)) H := hP
      have hD : va_D A (wR g cI cT (tset (rUp a) 2 u)) := hD
      refine lv_aload_n hx hb dX1_commit_47 rfl (lv_at hl 0 rfl) ?_
      refine va_get (D := (dC, dI)) (ci := 1) (v := .int (nI (rL a + 1))) (C := RX1) (T := TX1) (N := 4) hx hb hts (by decide +kernel) hown hK hP 0 rfl rfl 3 (by decide) (hts (.fieldLink RX1 24 "RevisionTree" "latest" "I") (by decide +kernel)) (fun _ h9 => h9) rfl dX1_commit_48 ?_
      exact W.iret (v := nI (rL a + 1)) hx hb hr (fun t9 ht9 hW9 => ⟨⟨_, (tset (rUp a) 2 u), rfl, by unfold aCommit; rw [if_pos h_1, h3]; exact ⟨rfl, tset_eq (by decide) eqR_rf hq⟩, by show va_P _ _ _ t9.heap; rw [ht9]; exact hP⟩, hS.F ht9⟩) hS.2.2 dX1_commit_51
  · refine lv_aload_n hx hb dX1_commit_4 rfl (lv_at hl 0 rfl) ?_
    refine va_get (D := (dC, dI)) (ci := 1) (v := .ref (g 15)) (C := RX1) (T := TX1) (N := 4) hx hb hts (by decide +kernel) hown hK hP 0 rfl rfl 0 (by decide) (hts (.fieldLink RX1 10 "RevisionTree" "worked" "LRevisionTree$Table;") (by decide +kernel)) (fun _ h9 => h9) rfl dX1_commit_5 ?_
    refine lv_aload_n hx hb dX1_commit_8 rfl (lv_at hl 0 rfl) ?_
    refine lv_aload_n hx hb dX1_commit_9 rfl (lv_at hl 0 rfl) ?_
    refine va_get (D := (dC, dI)) (ci := 1) (v := .int (nI (rL a))) (C := RX1) (T := TX1) (N := 4) hx hb hts (by decide +kernel) hown hK hP 0 rfl rfl 3 (by decide) (hts (.fieldLink RX1 24 "RevisionTree" "latest" "I") (by decide +kernel)) (fun _ h9 => h9) rfl dX1_commit_10 ?_
    refine zror (va_runV (As := [.int (nI (rL a))]) (rest := [.ref (g 15)]) ⟨hx, hb, hml, hown, hts⟩ (c_Tree_tableOfRevision l dC dI cI cT g a (rL a) s.heap.size (by omega)) (cwV 1 hts gX1_commit_X1_tableOfRevision rfl rfl rfl (by decide +kernel) ⟨Nat.le_of_ble_eq_true rfl, Nat.le_of_ble_eq_true rfl⟩) (zpreV hK hP hD rfl 0 rfl) rfl rfl hl.1 rfl (lv_room (Nat.le_of_ble_eq_true rfl)) dX1_commit_13 ⟨Nat.le_of_ble_eq_true rfl, Nat.le_of_ble_eq_true rfl⟩) hP hS hA (fun H locs hP hS => ?_)
    rcases (show rL a % 3 = 0 ∨ rL a % 3 = 1 ∨ rL a % 3 = 2 by omega) with h3 | h3 | h3
    · rw [h3]
      refine zwrv (w1 := fun u : TB => wT (g 15) (g 16) (g 17) (g 18) cI u ++ wT (g 3) (g 4) (g 5) (g 6) cI (tsel a 0)) (va_runV (As := [.ref (g 3)]) (rest := []) ⟨hx, hb, hml, hown, hts⟩ (c_Table_copyFrom l dC dI cI cT (g 15) (g 16) (g 17) (g 18) (g 3) (g 4) (g 5) (g 6) (tsel a 3) (tsel a 0) H.size (hok.1 0 (by decide)).1) (cwV 1 hts gX1_commit_X0_copyFrom rfl rfl rfl (by decide +kernel) ⟨Nat.le_of_ble_eq_true rfl, Nat.le_of_ble_eq_true rfl⟩) (zpreV hK (hP.sub [15, 16, 17, 18, 3, 4, 5, 6] rfl) (hD.sub [15, 16, 17, 18, 3, 4, 5, 6] (by decide) rfl) rfl 0 rfl) rfl rfl hl.1 rfl (lv_room (Nat.le_of_ble_eq_true rfl)) dX1_commit_16 ⟨Nat.le_of_ble_eq_true rfl, Nat.le_of_ble_eq_true rfl⟩) hP hD hS hA [15, 16, 17, 18, 3, 4, 5, 6] rfl (fun _ => rfl) (fun _ => rfl) (fun u H locs hw hP hD hS => ?_)
      have hq : eqT u (tsel a 0) := by rw [hw]; exact ⟨rfl, cpy_all, cpy_all, cpy_all⟩
      have hP : va_P (dC, dI) vwCl (wR g cI cT (tset a 3 u)) H := hP
      have hD : va_D A (wR g cI cT (tset a 3 u)) := hD
      refine lv_bipush (v := (-5)) hx hb dX1_commit_19 (by decide) ?_
      exact W.iret (v := (-5)) hx hb hr (fun t9 ht9 hW9 => ⟨⟨_, (tset a 3 u), rfl, by unfold aCommit; rw [if_neg h_1, h3]; exact ⟨rfl, tset_eq (by decide) eqR_rf hq⟩, by show va_P _ _ _ t9.heap; rw [ht9]; exact hP⟩, hS.F ht9⟩) hS.2.2 dX1_commit_21
    · rw [h3]
      refine zwrv (w1 := fun u : TB => wT (g 15) (g 16) (g 17) (g 18) cI u ++ wT (g 7) (g 8) (g 9) (g 10) cI (tsel a 1)) (va_runV (As := [.ref (g 7)]) (rest := []) ⟨hx, hb, hml, hown, hts⟩ (c_Table_copyFrom l dC dI cI cT (g 15) (g 16) (g 17) (g 18) (g 7) (g 8) (g 9) (g 10) (tsel a 3) (tsel a 1) H.size (hok.1 1 (by decide)).1) (cwV 1 hts gX1_commit_X0_copyFrom rfl rfl rfl (by decide +kernel) ⟨Nat.le_of_ble_eq_true rfl, Nat.le_of_ble_eq_true rfl⟩) (zpreV hK (hP.sub [15, 16, 17, 18, 7, 8, 9, 10] rfl) (hD.sub [15, 16, 17, 18, 7, 8, 9, 10] (by decide) rfl) rfl 0 rfl) rfl rfl hl.1 rfl (lv_room (Nat.le_of_ble_eq_true rfl)) dX1_commit_16 ⟨Nat.le_of_ble_eq_true rfl, Nat.le_of_ble_eq_true rfl⟩) hP hD hS hA [15, 16, 17, 18, 7, 8, 9, 10] rfl (fun _ => rfl) (fun _ => rfl) (fun u H locs hw hP hD hS => ?_)
      have hq : eqT u (tsel a 1) := by rw [hw]; exact ⟨rfl, cpy_all, cpy_all, cpy_all⟩
      have hP : va_P (dC, dI) vwCl (wR g cI cT (tset a 3 u)) H := hP
      have hD : va_D A (wR g cI cT (tset a 3 u)) := hD
      refine lv_bipush (v := (-5)) hx hb dX1_commit_19 (by decide) ?_
      exact W.iret (v := (-5)) hx hb hr (fun t9 ht9 hW9 => ⟨⟨_, (tset a 3 u), rfl, by unfold aCommit; rw [if_neg h_1, h3]; exact ⟨rfl, tset_eq (by decide) eqR_rf hq⟩, by show va_P _ _ _ t9.heap; rw [ht9]; exact hP⟩, hS.F ht9⟩) hS.2.2 dX1_commit_21
    · rw [h3]
      refine zwrv (w1 := fun u : TB => wT (g 15) (g 16) (g 17) (g 18) cI u ++ wT (g 11) (g 12) (g 13) (g 14) cI (tsel a 2)) (va_runV (As := [.ref (g 11)]) (rest := []) ⟨hx, hb, hml, hown, hts⟩ (c_Table_copyFrom l dC dI cI cT (g 15) (g 16) (g 17) (g 18) (g 11) (g 12) (g 13) (g 14) (tsel a 3) (tsel a 2) H.size (hok.1 2 (by decide)).1) (cwV 1 hts gX1_commit_X0_copyFrom rfl rfl rfl (by decide +kernel) ⟨Nat.le_of_ble_eq_true rfl, Nat.le_of_ble_eq_true rfl⟩) (zpreV hK (hP.sub [15, 16, 17, 18, 11, 12, 13, 14] rfl) (hD.sub [15, 16, 17, 18, 11, 12, 13, 14] (by decide) rfl) rfl 0 rfl) rfl rfl hl.1 rfl (lv_room (Nat.le_of_ble_eq_true rfl)) dX1_commit_16 ⟨Nat.le_of_ble_eq_true rfl, Nat.le_of_ble_eq_true rfl⟩) hP hD hS hA [15, 16, 17, 18, 11, 12, 13, 14] rfl (fun _ => rfl) (fun _ => rfl) (fun u H locs hw hP hD hS => ?_)
      have hq : eqT u (tsel a 2) := by rw [hw]; exact ⟨rfl, cpy_all, cpy_all, cpy_all⟩
      have hP : va_P (dC, dI) vwCl (wR g cI cT (tset a 3 u)) H := hP
      have hD : va_D A (wR g cI cT (tset a 3 u)) := hD
      refine lv_bipush (v := (-5)) hx hb dX1_commit_19 (by decide) ?_
      exact W.iret (v := (-5)) hx hb hr (fun t9 ht9 hW9 => ⟨⟨_, (tset a 3 u), rfl, by unfold aCommit; rw [if_neg h_1, h3]; exact ⟨rfl, tset_eq (by decide) eqR_rf hq⟩, by show va_P _ _ _ t9.heap; rw [ht9]; exact hP⟩, hS.F ht9⟩) hS.2.2 dX1_commit_21
set_option maxHeartbeats 4000000 in
set_option maxRecDepth 100000 in
/-- forget -/
theorem c_Tree_forget (l : Launch) (dC : Nat → ClassId) (dI : Nat → Nat → Nat) (cI cT : ClassId) (g : Nat → Nat) (a : RS) (sz : Nat) (L : Nat) (hok : okR L a) (hL : L < 500000) : Met l yX1_forget wsX1_forget ({ frames := 2, cells := 0, slots := 0, locals := 43 }) (va_Pc [.ref (g 0)] (zPW (dC, dI) vwCl cI cT (wR g cI cT a) sz)) (va_Qi (fun (r9 : Int32) (u9 : RS) => r9 = (aForget a).1 ∧ eqR u9 (aForget a).2) (fun u t => va_P (dC, dI) vwCl (wR g cI cT u) t.heap) (va_A (wR g cI cT a) sz)) 0 0 (va_A (wR g cI cT a) sz) := by
  refine Met.ofW (cc := cX1_forget) (maxL := 1) (ret := (some .int)) (by decide) rfl ?_
  intro p e s m args below meth c s₁ B hml hv
  obtain ⟨rfl, hsz, hP, hK, hD0⟩ := hv
  have hx := B.exec
  have hb := B.bytes
  have hr := B.returns
  have hts := atoms_spec (ws := wsX1_forget) B.pre
  have hown : s.vm.findClass RX1 = some m.cls := findClass_of_methodNamed B.named
  have hlocks := B.notSynchronized
  subst hsz
  have hD := hD0.self (sz := s.heap.size)
  generalize hAe : va_A (wR g cI cT a) s.heap.size = A at hD ⊢
  have hA : ∀ q : Nat, s.heap.size ≤ q → A q := fun q h => by rw [← hAe]; exact Or.inr h
  have hS : va_S A s.heap s.heap [] := va_S.rf
  have hl := lv_entry ([.ref (g 0)]) (n := 1) (Nat.le_of_ble_eq_true rfl)
  rw [lg_entry_eq]
  generalize (lg_sl ([.ref (g 0)]) ++ List.replicate (1 - (lg_sl ([.ref (g 0)])).length) Slot.unset).toArray = ls at hl ⊢
  have hl : lv_has ls 1 [(0, .ref (g 0))] := hl
  have hok3 : okT (tsel a 3) := hok.1 3 (by decide)
  have hlat : rL a ≤ L := hok.2.2
  refine lv_aload_n hx hb dX1_forget_0 rfl (lv_at hl 0 rfl) ?_
  refine va_get (D := (dC, dI)) (ci := 1) (v := .ref (g 15)) (C := RX1) (T := TX1) (N := 4) hx hb hts (by decide +kernel) hown hK hP 0 rfl rfl 0 (by decide) (hts (.fieldLink RX1 10 "RevisionTree" "worked" "LRevisionTree$Table;") (by decide +kernel)) (fun _ h9 => h9) rfl dX1_forget_1 ?_
  refine lv_aload_n hx hb dX1_forget_4 rfl (lv_at hl 0 rfl) ?_
  refine lv_aload_n hx hb dX1_forget_5 rfl (lv_at hl 0 rfl) ?_
  refine va_get (D := (dC, dI)) (ci := 1) (v := .int (nI (rL a))) (C := RX1) (T := TX1) (N := 4) hx hb hts (by decide +kernel) hown hK hP 0 rfl rfl 3 (by decide) (hts (.fieldLink RX1 24 "RevisionTree" "latest" "I") (by decide +kernel)) (fun _ h9 => h9) rfl dX1_forget_6 ?_
  refine zror (va_runV (As := [.int (nI (rL a))]) (rest := [.ref (g 15)]) ⟨hx, hb, hml, hown, hts⟩ (c_Tree_tableOfRevision l dC dI cI cT g a (rL a) s.heap.size (by omega)) (cwV 1 hts gX1_forget_X1_tableOfRevision rfl rfl rfl (by decide +kernel) ⟨Nat.le_of_ble_eq_true rfl, Nat.le_of_ble_eq_true rfl⟩) (zpreV hK hP hD rfl 0 rfl) rfl rfl hl.1 rfl (lv_room (Nat.le_of_ble_eq_true rfl)) dX1_forget_9 ⟨Nat.le_of_ble_eq_true rfl, Nat.le_of_ble_eq_true rfl⟩) hP hS hA (fun H locs hP hS => ?_)
  rcases (show rL a % 3 = 0 ∨ rL a % 3 = 1 ∨ rL a % 3 = 2 by omega) with h3 | h3 | h3
  · rw [h3]
    refine zwrv (w1 := fun u : TB => wT (g 15) (g 16) (g 17) (g 18) cI u ++ wT (g 3) (g 4) (g 5) (g 6) cI (tsel a 0)) (va_runV (As := [.ref (g 3)]) (rest := []) ⟨hx, hb, hml, hown, hts⟩ (c_Table_copyFrom l dC dI cI cT (g 15) (g 16) (g 17) (g 18) (g 3) (g 4) (g 5) (g 6) (tsel a 3) (tsel a 0) H.size (hok.1 0 (by decide)).1) (cwV 1 hts gX1_forget_X0_copyFrom rfl rfl rfl (by decide +kernel) ⟨Nat.le_of_ble_eq_true rfl, Nat.le_of_ble_eq_true rfl⟩) (zpreV hK (hP.sub [15, 16, 17, 18, 3, 4, 5, 6] rfl) (hD.sub [15, 16, 17, 18, 3, 4, 5, 6] (by decide) rfl) rfl 0 rfl) rfl rfl hl.1 rfl (lv_room (Nat.le_of_ble_eq_true rfl)) dX1_forget_12 ⟨Nat.le_of_ble_eq_true rfl, Nat.le_of_ble_eq_true rfl⟩) hP hD hS hA [15, 16, 17, 18, 3, 4, 5, 6] rfl (fun _ => rfl) (fun _ => rfl) (fun u H locs hw hP hD hS => ?_)
    have hq : eqT u (tsel a 0) := by rw [hw]; exact ⟨rfl, cpy_all, cpy_all, cpy_all⟩
    have hP : va_P (dC, dI) vwCl (wR g cI cT (tset a 3 u)) H := hP
    have hD : va_D A (wR g cI cT (tset a 3 u)) := hD
    refine lv_aload_n hx hb dX1_forget_15 rfl (lv_at hl 0 rfl) ?_
    refine va_get (D := (dC, dI)) (ci := 1) (v := .ref (g 15)) (C := RX1) (T := TX1) (N := 4) hx hb hts (by decide +kernel) hown hK hP 0 rfl rfl 0 (by decide) (hts (.fieldLink RX1 10 "RevisionTree" "worked" "LRevisionTree$Table;") (by decide +kernel)) (fun _ h9 => h9) rfl dX1_forget_16 ?_
    refine va_get (D := (dC, dI)) (ci := 0) (v := .int (nI u.1)) (C := RX0) (T := TX0) (N := 4) hx hb hts (by decide +kernel) hown hK hP 15 rfl rfl 3 (by decide) (hts (.fieldLink RX1 40 "RevisionTree$Table" "held" "I") (by decide +kernel)) (fun _ h9 => h9) rfl dX1_forget_19 ?_
    exact W.iret (v := nI u.1) hx hb hr (fun t9 ht9 hW9 => ⟨⟨_, (tset a 3 u), rfl, by unfold aForget; rw [h3]; exact ⟨congrArg nI hq.1, tset_eq (by decide) eqR_rf hq⟩, by show va_P _ _ _ t9.heap; rw [ht9]; exact hP⟩, hS.F ht9⟩) hS.2.2 dX1_forget_22
  · rw [h3]
    refine zwrv (w1 := fun u : TB => wT (g 15) (g 16) (g 17) (g 18) cI u ++ wT (g 7) (g 8) (g 9) (g 10) cI (tsel a 1)) (va_runV (As := [.ref (g 7)]) (rest := []) ⟨hx, hb, hml, hown, hts⟩ (c_Table_copyFrom l dC dI cI cT (g 15) (g 16) (g 17) (g 18) (g 7) (g 8) (g 9) (g 10) (tsel a 3) (tsel a 1) H.size (hok.1 1 (by decide)).1) (cwV 1 hts gX1_forget_X0_copyFrom rfl rfl rfl (by decide +kernel) ⟨Nat.le_of_ble_eq_true rfl, Nat.le_of_ble_eq_true rfl⟩) (zpreV hK (hP.sub [15, 16, 17, 18, 7, 8, 9, 10] rfl) (hD.sub [15, 16, 17, 18, 7, 8, 9, 10] (by decide) rfl) rfl 0 rfl) rfl rfl hl.1 rfl (lv_room (Nat.le_of_ble_eq_true rfl)) dX1_forget_12 ⟨Nat.le_of_ble_eq_true rfl, Nat.le_of_ble_eq_true rfl⟩) hP hD hS hA [15, 16, 17, 18, 7, 8, 9, 10] rfl (fun _ => rfl) (fun _ => rfl) (fun u H locs hw hP hD hS => ?_)
    have hq : eqT u (tsel a 1) := by rw [hw]; exact ⟨rfl, cpy_all, cpy_all, cpy_all⟩
    have hP : va_P (dC, dI) vwCl (wR g cI cT (tset a 3 u)) H := hP
    have hD : va_D A (wR g cI cT (tset a 3 u)) := hD
    refine lv_aload_n hx hb dX1_forget_15 rfl (lv_at hl 0 rfl) ?_
    refine va_get (D := (dC, dI)) (ci := 1) (v := .ref (g 15)) (C := RX1) (T := TX1) (N := 4) hx hb hts (by decide +kernel) hown hK hP 0 rfl rfl 0 (by decide) (hts (.fieldLink RX1 10 "RevisionTree" "worked" "LRevisionTree$Table;") (by decide +kernel)) (fun _ h9 => h9) rfl dX1_forget_16 ?_
    refine va_get (D := (dC, dI)) (ci := 0) (v := .int (nI u.1)) (C := RX0) (T := TX0) (N := 4) hx hb hts (by decide +kernel) hown hK hP 15 rfl rfl 3 (by decide) (hts (.fieldLink RX1 40 "RevisionTree$Table" "held" "I") (by decide +kernel)) (fun _ h9 => h9) rfl dX1_forget_19 ?_
    exact W.iret (v := nI u.1) hx hb hr (fun t9 ht9 hW9 => ⟨⟨_, (tset a 3 u), rfl, by unfold aForget; rw [h3]; exact ⟨congrArg nI hq.1, tset_eq (by decide) eqR_rf hq⟩, by show va_P _ _ _ t9.heap; rw [ht9]; exact hP⟩, hS.F ht9⟩) hS.2.2 dX1_forget_22
  · rw [h3]
    refine zwrv (w1 := fun u : TB => wT (g 15) (g 16) (g 17) (g 18) cI u ++ wT (g 11) (g 12) (g 13) (g 14) cI (tsel a 2)) (va_runV (As := [.ref (g 11)]) (rest := []) ⟨hx, hb, hml, hown, hts⟩ (c_Table_copyFrom l dC dI cI cT (g 15) (g 16) (g 17) (g 18) (g 11) (g 12) (g 13) (g 14) (tsel a 3) (tsel a 2) H.size (hok.1 2 (by decide)).1) (cwV 1 hts gX1_forget_X0_copyFrom rfl rfl rfl (by decide +kernel) ⟨Nat.le_of_ble_eq_true rfl, Nat.le_of_ble_eq_true rfl⟩) (zpreV hK (hP.sub [15, 16, 17, 18, 11, 12, 13, 14] rfl) (hD.sub [15, 16, 17, 18, 11, 12, 13, 14] (by decide) rfl) rfl 0 rfl) rfl rfl hl.1 rfl (lv_room (Nat.le_of_ble_eq_true rfl)) dX1_forget_12 ⟨Nat.le_of_ble_eq_true rfl, Nat.le_of_ble_eq_true rfl⟩) hP hD hS hA [15, 16, 17, 18, 11, 12, 13, 14] rfl (fun _ => rfl) (fun _ => rfl) (fun u H locs hw hP hD hS => ?_)
    have hq : eqT u (tsel a 2) := by rw [hw]; exact ⟨rfl, cpy_all, cpy_all, cpy_all⟩
    have hP : va_P (dC, dI) vwCl (wR g cI cT (tset a 3 u)) H := hP
    have hD : va_D A (wR g cI cT (tset a 3 u)) := hD
    refine lv_aload_n hx hb dX1_forget_15 rfl (lv_at hl 0 rfl) ?_
    refine va_get (D := (dC, dI)) (ci := 1) (v := .ref (g 15)) (C := RX1) (T := TX1) (N := 4) hx hb hts (by decide +kernel) hown hK hP 0 rfl rfl 0 (by decide) (hts (.fieldLink RX1 10 "RevisionTree" "worked" "LRevisionTree$Table;") (by decide +kernel)) (fun _ h9 => h9) rfl dX1_forget_16 ?_
    refine va_get (D := (dC, dI)) (ci := 0) (v := .int (nI u.1)) (C := RX0) (T := TX0) (N := 4) hx hb hts (by decide +kernel) hown hK hP 15 rfl rfl 3 (by decide) (hts (.fieldLink RX1 40 "RevisionTree$Table" "held" "I") (by decide +kernel)) (fun _ h9 => h9) rfl dX1_forget_19 ?_
    exact W.iret (v := nI u.1) hx hb hr (fun t9 ht9 hW9 => ⟨⟨_, (tset a 3 u), rfl, by unfold aForget; rw [h3]; exact ⟨congrArg nI hq.1, tset_eq (by decide) eqR_rf hq⟩, by show va_P _ _ _ t9.heap; rw [ht9]; exact hP⟩, hS.F ht9⟩) hS.2.2 dX1_forget_22
set_option maxHeartbeats 4000000 in
set_option maxRecDepth 100000 in
/-- open -/
theorem c_Tree_open (l : Launch) (dC : Nat → ClassId) (dI : Nat → Nat → Nat) (cI cT : ClassId) (g : Nat → Nat) (a : RS) (r : Int32) (sz : Nat) (L : Nat) (hok : okR L a) (hL : L < 500000) : Met l yX1_open wsX1_open ({ frames := 0, cells := 0, slots := 0, locals := 0 }) (va_Pc [.ref (g 0), .int r] (zPW (dC, dI) vwCl cI cT (wR g cI cT a) sz)) (va_Qi (fun (r9 : Int32) (u9 : RS) => r9 = (aOpen a r).1 ∧ eqR u9 (aOpen a r).2) (fun u t => va_P (dC, dI) vwCl (wR g cI cT u) t.heap) (va_A (wR g cI cT a) sz)) 0 0 (va_A (wR g cI cT a) sz) := by
  refine Met.ofW (cc := cX1_open) (maxL := 2) (ret := (some .int)) (by decide) rfl ?_
  intro p e s m args below meth c s₁ B hml hv
  obtain ⟨rfl, hsz, hP, hK, hD0⟩ := hv
  have hx := B.exec
  have hb := B.bytes
  have hr := B.returns
  have hts := atoms_spec (ws := wsX1_open) B.pre
  have hown : s.vm.findClass RX1 = some m.cls := findClass_of_methodNamed B.named
  have hlocks := B.notSynchronized
  subst hsz
  have hD := hD0.self (sz := s.heap.size)
  generalize hAe : va_A (wR g cI cT a) s.heap.size = A at hD ⊢
  have hA : ∀ q : Nat, s.heap.size ≤ q → A q := fun q h => by rw [← hAe]; exact Or.inr h
  have hS : va_S A s.heap s.heap [] := va_S.rf
  have hl := lv_entry ([.ref (g 0), .int r]) (n := 2) (Nat.le_of_ble_eq_true rfl)
  rw [lg_entry_eq]
  generalize (lg_sl ([.ref (g 0), .int r]) ++ List.replicate (2 - (lg_sl ([.ref (g 0), .int r])).length) Slot.unset).toArray = ls at hl ⊢
  have hl : lv_has ls 2 [(0, .ref (g 0)), (1, .int r)] := hl
  have hok3 : okT (tsel a 3) := hok.1 3 (by decide)
  have hlat : rL a ≤ L := hok.2.2
  refine lv_iload_n hx hb dX1_open_0 rfl (lv_at hl 1 rfl) ?_
  refine lv_if_lt (tgt := 9) hx hb dX1_open_1 (by decide) (fun h_1 => ?_) (fun h_1 => ?_)
  · refine lv_iconst (v := (-1)) hx hb dX1_open_9 (by decide) ?_
    exact W.iret (v := (-1)) hx hb hr (fun t9 ht9 hW9 => ⟨⟨_, a, rfl, by unfold aOpen; rw [if_pos (show r < 0 ∨ 3 < r from Or.inl h_1)]; exact ⟨rfl, eqR_rf⟩, by show va_P _ _ _ t9.heap; rw [ht9]; exact hP⟩, hS.F ht9⟩) hS.2.2 dX1_open_10
  · refine lv_iload_n hx hb dX1_open_4 rfl (lv_at hl 1 rfl) ?_
    refine lv_iconst (v := nI 4) hx hb dX1_open_5 (by decide) ?_
    refine lv_icmp_lt (tgt := 11) hx hb dX1_open_6 (by decide) (fun h_6 => ?_) (fun h_6 => ?_)
    · obtain ⟨j, hj, rfl, ec⟩ := r_in h_1 (r43.mp h_6)
      refine lv_aload_n hx hb dX1_open_11 rfl (lv_at hl 0 rfl) ?_
      refine va_get (D := (dC, dI)) (ci := 1) (v := .ref (g 2)) (C := RX1) (T := TX1) (N := 4) hx hb hts (by decide +kernel) hown hK hP 0 rfl rfl 2 (by decide) (hts (.fieldLink RX1 20 "RevisionTree" "revisionOfReader" "[I") (by decide +kernel)) (fun _ h9 => h9) rfl dX1_open_12 ?_
      refine lv_iload_n hx hb dX1_open_15 rfl (lv_at hl 1 rfl) ?_
      refine lv_aload_n hx hb dX1_open_16 rfl (lv_at hl 0 rfl) ?_
      refine va_get (D := (dC, dI)) (ci := 1) (v := .int (nI (rL a))) (C := RX1) (T := TX1) (N := 4) hx hb hts (by decide +kernel) hown hK hP 0 rfl rfl 3 (by decide) (hts (.fieldLink RX1 24 "RevisionTree" "latest" "I") (by decide +kernel)) (fun _ h9 => h9) rfl dX1_open_17 ?_
      refine zwrN hx hb hK hP hD hS 2 0 rfl rfl (j := j) (by omega) (by decide) dX1_open_20 (fun H locs hP hD hS => ?_)
      rw [rd_up (f := rRd a) (j := j) (x := rL a)] at hP hD
      have hP : va_P (dC, dI) vwCl (wR g cI cT (rRs a (va_up (rRd a) j (rL a)))) H := hP
      have hD : va_D A (wR g cI cT (rRs a (va_up (rRd a) j (rL a)))) := hD
      refine lv_aload_n hx hb dX1_open_21 rfl (lv_at hl 0 rfl) ?_
      refine va_get (D := (dC, dI)) (ci := 1) (v := .int (nI (rL a))) (C := RX1) (T := TX1) (N := 4) hx hb hts (by decide +kernel) hown hK hP 0 rfl rfl 3 (by decide) (hts (.fieldLink RX1 24 "RevisionTree" "latest" "I") (by decide +kernel)) (fun _ h9 => h9) rfl dX1_open_22 ?_
      exact W.iret (v := nI (rL a)) hx hb hr (fun t9 ht9 hW9 => ⟨⟨_, (rRs a (va_up (rRd a) j (rL a))), rfl, by unfold aOpen; rw [if_neg (fun q => q.elim h_1 (r43.mp h_6)), ec]; exact ⟨rfl, eqR_rf⟩, by show va_P _ _ _ t9.heap; rw [ht9]; exact hP⟩, hS.F ht9⟩) hS.2.2 dX1_open_25
    · refine lv_iconst (v := (-1)) hx hb dX1_open_9 (by decide) ?_
      exact W.iret (v := (-1)) hx hb hr (fun t9 ht9 hW9 => ⟨⟨_, a, rfl, by unfold aOpen; rw [if_pos (show r < 0 ∨ 3 < r from Or.inr (i_lt (fun q => h_6 (r43.mpr (i_nl q)))))]; exact ⟨rfl, eqR_rf⟩, by show va_P _ _ _ t9.heap; rw [ht9]; exact hP⟩, hS.F ht9⟩) hS.2.2 dX1_open_10
end
section
set_option maxHeartbeats 4000000 in
set_option maxRecDepth 100000 in
/-- place -/
theorem c_Model_place (l : Launch) (dC : Nat → ClassId) (dI : Nat → Nat → Nat) (cI cT : ClassId) (g : Nat → Nat) (w : MS) (t : Nat) (k : Int32) (sz : Nat) (ht : t < 4) (hle : ∀ t, t < 4 → mC w t ≤ 400) : Met l yX2_place wsX2_place ({ frames := 0, cells := 0, slots := 0, locals := 0 }) (va_Pc [.ref (g 0), .int (nI t), .int k] (zPW (dC, dI) vwCl cI cT (wM g cI w) sz)) (zQi sz (nI (400 * t + tPl (vT w t) k))) 0 0 (zfr sz) := by
  refine Met.ofW (cc := cX2_place) (maxL := 4) (ret := (some .int)) (by decide) rfl ?_
  intro p e s m args below meth c s₁ B hml hv
  obtain ⟨rfl, hsz, hP, hK, hD0⟩ := hv
  have hx := B.exec
  have hb := B.bytes
  have hr := B.returns
  have hts := atoms_spec (ws := wsX2_place) B.pre
  have hown : s.vm.findClass RX2 = some m.cls := findClass_of_methodNamed B.named
  have hlocks := B.notSynchronized
  subst hsz
  have hA : ∀ q : Nat, s.heap.size ≤ q → (fun q : Nat => s.heap.size ≤ q) q := fun _ h => h
  have hS : va_S (fun q : Nat => s.heap.size ≤ q) s.heap s.heap [] := va_S.rf
  have hD := hD0
  have hl := lv_entry ([.ref (g 0), .int (nI t), .int k]) (n := 4) (Nat.le_of_ble_eq_true rfl)
  rw [lg_entry_eq]
  generalize (lg_sl ([.ref (g 0), .int (nI t), .int k]) ++ List.replicate (4 - (lg_sl ([.ref (g 0), .int (nI t), .int k])).length) Slot.unset).toArray = ls at hl ⊢
  have hl : lv_has ls 4 [(0, .ref (g 0)), (1, .int (nI t)), (2, .int k)] := hl
  have hct : mC w t ≤ 400 := hle t ht
  refine lv_sipush (v := nI 400) hx hb dX2_place_0 (by decide) ?_
  refine lv_iload_n hx hb dX2_place_3 rfl (lv_at hl 1 rfl) ?_
  refine lv_imul hx hb dX2_place_4 ?_
  refine zt (y := nI (400 * t)) (pk_mul _ _) ?_
  refine lv_istore_n (lv' := [(3, .int (nI (400 * t))), (0, .ref (g 0)), (1, .int (nI t)), (2, .int k)]) hx hb dX2_place_5 rfl hl (by decide) rfl (fun ls hl => ?_)
  refine zloop (σ := Nat) (fun q H locs ls => (q ≤ mC w t ∧ ∀ j, j < q → mK w (400 * t + j) < k) ∧ va_P (dC, dI) vwCl (wM g cI w) H ∧ va_S (fun q : Nat => s.heap.size ≤ q) s.heap H locs ∧ lv_has ls 4 [(0, .ref (g 0)), (1, .int (nI t)), (2, .int k), (3, .int (nI (400 * t + q)))]) (fun q => mC w t - q) ?_ 0 ⟨⟨Nat.zero_le _, fun j h => absurd h (Nat.not_lt_zero _)⟩, hP, hS, lv_sub hl [1, 2, 3, 0] rfl⟩
  rintro q H locs ls ⟨⟨h1, h2⟩, hP, hS, hl⟩ ih
  refine lv_iload_n hx hb dX2_place_6 rfl (lv_at hl 3 rfl) ?_
  refine lv_sipush (v := nI 400) hx hb dX2_place_7 (by decide) ?_
  refine lv_iload_n hx hb dX2_place_10 rfl (lv_at hl 1 rfl) ?_
  refine lv_imul hx hb dX2_place_11 ?_
  refine zt (y := nI (400 * t)) (pk_mul _ _) ?_
  refine lv_aload_n hx hb dX2_place_12 rfl (lv_at hl 0 rfl) ?_
  refine va_get (D := (dC, dI)) (ci := 2) (v := .ref (g 4)) (C := RX2) (T := TX2) (N := 6) hx hb hts (by decide +kernel) hown hK hP 0 rfl rfl 3 (by decide) (hts (.fieldLink RX2 19 "RevisionTreeModel" "count" "[I") (by decide +kernel)) (fun _ h9 => h9) rfl dX2_place_13 ?_
  refine lv_iload_n hx hb dX2_place_16 rfl (lv_at hl 1 rfl) ?_
  refine zrdN hx hb hK hP 4 0 rfl rfl (j := t) (by omega) (by decide) dX2_place_17 ?_
  refine lv_iadd hx hb dX2_place_18 ?_
  refine zt (y := nI ((400 * t) + (mC w t))) (nI_add _ _) ?_
  refine zge (tgt := 38) hx hb dX2_place_19 (by decide) (by omega) (by omega) (fun h_19 => ?_) (fun h_19 => ?_)
  · refine lv_iload_n hx hb dX2_place_38 rfl (lv_at hl 3 rfl) ?_
    exact W.iret (v := nI (400 * t + q)) hx hb hr (fun t9 ht9 hW9 => ⟨⟨_, (), rfl, congrArg (fun x => nI (400 * t + x)) (isPl_pl (show isPl (mC w t) (fun j => mK w (400 * t + j)) k q from ⟨h1, h2, fun z => absurd z (by omega)⟩)), trivial⟩, hS.F ht9⟩) hS.2.2 dX2_place_39
  · refine lv_aload_n hx hb dX2_place_22 rfl (lv_at hl 0 rfl) ?_
    refine va_get (D := (dC, dI)) (ci := 2) (v := .ref (g 1)) (C := RX2) (T := TX2) (N := 6) hx hb hts (by decide +kernel) hown hK hP 0 rfl rfl 0 (by decide) (hts (.fieldLink RX2 9 "RevisionTreeModel" "key" "[I") (by decide +kernel)) (fun _ h9 => h9) rfl dX2_place_23 ?_
    refine lv_iload_n hx hb dX2_place_26 rfl (lv_at hl 3 rfl) ?_
    refine zrdN hx hb hK hP 1 0 rfl rfl (j := 400 * t + q) (by omega) (by decide) dX2_place_27 ?_
    refine lv_iload_n hx hb dX2_place_28 rfl (lv_at hl 2 rfl) ?_
    refine lv_icmp_ge (tgt := 38) hx hb dX2_place_29 (by decide) (fun h_29 => ?_) (fun h_29 => ?_)
    · refine lv_iload_n hx hb dX2_place_38 rfl (lv_at hl 3 rfl) ?_
      exact W.iret (v := nI (400 * t + q)) hx hb hr (fun t9 ht9 hW9 => ⟨⟨_, (), rfl, congrArg (fun x => nI (400 * t + x)) (isPl_pl (show isPl (mC w t) (fun j => mK w (400 * t + j)) k q from ⟨h1, h2, fun _ => i_nl h_29⟩)), trivial⟩, hS.F ht9⟩) hS.2.2 dX2_place_39
    · refine lv_iinc (v := nI ((400 * t + q) + 1)) (lv' := [(3, .int (nI ((400 * t + q) + 1))), (0, .ref (g 0)), (1, .int (nI t)), (2, .int k)]) hx hb dX2_place_32 hl (k := 3) rfl (zinc _) (by decide) rfl (fun ls hl => ?_)
      refine lv_goto (tgt := 6) hx hb dX2_place_35 (by decide) ?_
      exact ih (q + 1) _ _ _ ⟨⟨by omega, lt_s h2 (i_lt h_29)⟩, hP, hS, lv_sub hl [1, 2, 3, 0] rfl⟩ (by show mC w t - (q + 1) < mC w t - q; omega)
set_option maxHeartbeats 4000000 in
set_option maxRecDepth 100000 in
/-- is -/
theorem c_Model_is (l : Launch) (dC : Nat → ClassId) (dI : Nat → Nat → Nat) (cI cT : ClassId) (g : Nat → Nat) (w : MS) (t q : Nat) (k : Int32) (sz : Nat) (ht : t < 4) (hle : ∀ t, t < 4 → mC w t ≤ 400) (hq : q ≤ 400) : Met l yX2_is wsX2_is ({ frames := 0, cells := 0, slots := 0, locals := 0 }) (va_Pc [.ref (g 0), .int (nI t), .int (nI (400 * t + q)), .int k] (zPW (dC, dI) vwCl cI cT (wM g cI w) sz)) (zQi sz (bz (q < mC w t ∧ mK w (400 * t + q) = k))) 0 0 (zfr sz) := by
  refine Met.ofW (cc := cX2_is) (maxL := 4) (ret := (some .boolean)) (by decide) rfl ?_
  intro p e s m args below meth c s₁ B hml hv
  obtain ⟨rfl, hsz, hP, hK, hD0⟩ := hv
  have hx := B.exec
  have hb := B.bytes
  have hr := B.returns
  have hts := atoms_spec (ws := wsX2_is) B.pre
  have hown : s.vm.findClass RX2 = some m.cls := findClass_of_methodNamed B.named
  have hlocks := B.notSynchronized
  subst hsz
  have hA : ∀ q : Nat, s.heap.size ≤ q → (fun q : Nat => s.heap.size ≤ q) q := fun _ h => h
  have hS : va_S (fun q : Nat => s.heap.size ≤ q) s.heap s.heap [] := va_S.rf
  have hD := hD0
  have hl := lv_entry ([.ref (g 0), .int (nI t), .int (nI (400 * t + q)), .int k]) (n := 4) (Nat.le_of_ble_eq_true rfl)
  rw [lg_entry_eq]
  generalize (lg_sl ([.ref (g 0), .int (nI t), .int (nI (400 * t + q)), .int k]) ++ List.replicate (4 - (lg_sl ([.ref (g 0), .int (nI t), .int (nI (400 * t + q)), .int k])).length) Slot.unset).toArray = ls at hl ⊢
  have hl : lv_has ls 4 [(0, .ref (g 0)), (1, .int (nI t)), (2, .int (nI (400 * t + q))), (3, .int k)] := hl
  have hct : mC w t ≤ 400 := hle t ht
  refine lv_iload_n hx hb dX2_is_0 rfl (lv_at hl 2 rfl) ?_
  refine lv_sipush (v := nI 400) hx hb dX2_is_1 (by decide) ?_
  refine lv_iload_n hx hb dX2_is_4 rfl (lv_at hl 1 rfl) ?_
  refine lv_imul hx hb dX2_is_5 ?_
  refine zt (y := nI (400 * t)) (pk_mul _ _) ?_
  refine lv_aload_n hx hb dX2_is_6 rfl (lv_at hl 0 rfl) ?_
  refine va_get (D := (dC, dI)) (ci := 2) (v := .ref (g 4)) (C := RX2) (T := TX2) (N := 6) hx hb hts (by decide +kernel) hown hK hP 0 rfl rfl 3 (by decide) (hts (.fieldLink RX2 19 "RevisionTreeModel" "count" "[I") (by decide +kernel)) (fun _ h9 => h9) rfl dX2_is_7 ?_
  refine lv_iload_n hx hb dX2_is_10 rfl (lv_at hl 1 rfl) ?_
  refine zrdN hx hb hK hP 4 0 rfl rfl (j := t) (by omega) (by decide) dX2_is_11 ?_
  refine lv_iadd hx hb dX2_is_12 ?_
  refine zt (y := nI ((400 * t) + (mC w t))) (nI_add _ _) ?_
  refine zge (tgt := 30) hx hb dX2_is_13 (by decide) (by omega) (by omega) (fun h_13 => ?_) (fun h_13 => ?_)
  · refine lv_iconst (v := nI 0) hx hb dX2_is_30 (by decide) ?_
    exact W.zret (v := nI 0) hx hb hr rfl (fun t9 ht9 hW9 => ⟨⟨_, (), rfl, (bz_f (fun z => absurd z.1 (by omega))).symm, trivial⟩, hS.F ht9⟩) hS.2.2 dX2_is_31
  · refine lv_aload_n hx hb dX2_is_16 rfl (lv_at hl 0 rfl) ?_
    refine va_get (D := (dC, dI)) (ci := 2) (v := .ref (g 1)) (C := RX2) (T := TX2) (N := 6) hx hb hts (by decide +kernel) hown hK hP 0 rfl rfl 0 (by decide) (hts (.fieldLink RX2 9 "RevisionTreeModel" "key" "[I") (by decide +kernel)) (fun _ h9 => h9) rfl dX2_is_17 ?_
    refine lv_iload_n hx hb dX2_is_20 rfl (lv_at hl 2 rfl) ?_
    refine zrdN hx hb hK hP 1 0 rfl rfl (j := 400 * t + q) (by omega) (by decide) dX2_is_21 ?_
    refine lv_iload_n hx hb dX2_is_22 rfl (lv_at hl 3 rfl) ?_
    refine lv_icmp_ne (tgt := 30) hx hb dX2_is_23 (by decide) (fun h_23 => ?_) (fun h_23 => ?_)
    · refine lv_iconst (v := nI 0) hx hb dX2_is_30 (by decide) ?_
      exact W.zret (v := nI 0) hx hb hr rfl (fun t9 ht9 hW9 => ⟨⟨_, (), rfl, (bz_f (fun z => h_23 z.2)).symm, trivial⟩, hS.F ht9⟩) hS.2.2 dX2_is_31
    · refine lv_iconst (v := nI 1) hx hb dX2_is_26 (by decide) ?_
      refine lv_goto (tgt := 31) hx hb dX2_is_27 (by decide) ?_
      exact W.zret (v := nI 1) hx hb hr rfl (fun t9 ht9 hW9 => ⟨⟨_, (), rfl, (bz_t ⟨by omega, h_23⟩).symm, trivial⟩, hS.F ht9⟩) hS.2.2 dX2_is_31
end
section
set_option maxHeartbeats 4000000 in
set_option maxRecDepth 100000 in
/-- table -/
theorem c_Model_table (l : Launch) (dC : Nat → ClassId) (dI : Nat → Nat → Nat) (cI cT : ClassId) (g : Nat → Nat) (w : MS) (r : Int32) (sz : Nat) (L : Nat) (hok : okR L (view w)) (hL : L < 500000) : Met l yX2_table wsX2_table ({ frames := 0, cells := 0, slots := 0, locals := 0 }) (va_Pc [.ref (g 0), .int r] (zPW (dC, dI) vwCl cI cT (wM g cI w) sz)) (zQi sz (mTb (view w) r)) 0 0 (zfr sz) := by
  refine Met.ofW (cc := cX2_table) (maxL := 2) (ret := (some .int)) (by decide) rfl ?_
  intro p e s m args below meth c s₁ B hml hv
  obtain ⟨rfl, hsz, hP, hK, hD0⟩ := hv
  have hx := B.exec
  have hb := B.bytes
  have hr := B.returns
  have hts := atoms_spec (ws := wsX2_table) B.pre
  have hown : s.vm.findClass RX2 = some m.cls := findClass_of_methodNamed B.named
  have hlocks := B.notSynchronized
  subst hsz
  have hA : ∀ q : Nat, s.heap.size ≤ q → (fun q : Nat => s.heap.size ≤ q) q := fun _ h => h
  have hS : va_S (fun q : Nat => s.heap.size ≤ q) s.heap s.heap [] := va_S.rf
  have hD := hD0
  have hl := lv_entry ([.ref (g 0), .int r]) (n := 2) (Nat.le_of_ble_eq_true rfl)
  rw [lg_entry_eq]
  generalize (lg_sl ([.ref (g 0), .int r]) ++ List.replicate (2 - (lg_sl ([.ref (g 0), .int r])).length) Slot.unset).toArray = ls at hl ⊢
  have hl : lv_has ls 2 [(0, .ref (g 0)), (1, .int r)] := hl
  have hle : ∀ t, t < 4 → mC w t ≤ 400 := fun t ht => by have h9 := (hok.1 t ht).1; rw [view_t w ht] at h9; exact h9
  have hc3 : mC w 3 ≤ 400 := hle 3 (by decide)
  have hlat : mL w ≤ L := hok.2.2
  refine lv_iload_n hx hb dX2_table_0 rfl (lv_at hl 1 rfl) ?_
  refine lv_iconst (v := (-1)) hx hb dX2_table_1 (by decide) ?_
  refine lv_icmp_lt (tgt := 10) hx hb dX2_table_2 (by decide) (fun h_2 => ?_) (fun h_2 => ?_)
  · refine lv_iconst (v := (-1)) hx hb dX2_table_10 (by decide) ?_
    exact W.iret (v := (-1)) hx hb hr (fun t9 ht9 hW9 => ⟨⟨_, (), rfl, (mTb_n (a := view w) (r := r) (v := -1) (by decide) (aSt_out (a := view w) (Or.inl h_2))).symm, trivial⟩, hS.F ht9⟩) hS.2.2 dX2_table_11
  · refine lv_iload_n hx hb dX2_table_5 rfl (lv_at hl 1 rfl) ?_
    refine lv_iconst (v := nI 3) hx hb dX2_table_6 (by decide) ?_
    refine lv_icmp_le (tgt := 12) hx hb dX2_table_7 (by decide) (fun h_7 => ?_) (fun h_7 => ?_)
    · refine lv_iload_n hx hb dX2_table_12 rfl (lv_at hl 1 rfl) ?_
      refine lv_if_ge (tgt := 18) hx hb dX2_table_13 (by decide) (fun h_13 => ?_) (fun h_13 => ?_)
      · obtain ⟨j, hj, rfl, ec⟩ := r_in (i_nl h_13) (r33.mp h_7)
        have hrd : mR w j ≤ mL w := hok.2.1 j hj
        refine lv_aload_n hx hb dX2_table_18 rfl (lv_at hl 0 rfl) ?_
        refine va_get (D := (dC, dI)) (ci := 2) (v := .ref (g 5)) (C := RX2) (T := TX2) (N := 6) hx hb hts (by decide +kernel) hown hK hP 0 rfl rfl 4 (by decide) (hts (.fieldLink RX2 22 "RevisionTreeModel" "reader" "[I") (by decide +kernel)) (fun _ h9 => h9) rfl dX2_table_19 ?_
        refine lv_iload_n hx hb dX2_table_22 rfl (lv_at hl 1 rfl) ?_
        refine zrdN hx hb hK hP 5 0 rfl rfl (j := j) (by omega) (by decide) dX2_table_23 ?_
        refine lv_aload_n hx hb dX2_table_24 rfl (lv_at hl 0 rfl) ?_
        refine va_get (D := (dC, dI)) (ci := 2) (v := .int (nI (mL w))) (C := RX2) (T := TX2) (N := 6) hx hb hts (by decide +kernel) hown hK hP 0 rfl rfl 5 (by decide) (hts (.fieldLink RX2 37 "RevisionTreeModel" "latest" "I") (by decide +kernel)) (fun _ h9 => h9) rfl dX2_table_25 ?_
        refine lv_iconst (v := nI 2) hx hb dX2_table_28 (by decide) ?_
        refine lv_isub hx hb dX2_table_29 ?_
        refine lv_icmp_ge (tgt := 38) hx hb dX2_table_30 (by decide) (fun h_30 => ?_) (fun h_30 => ?_)
        · refine lv_aload_n hx hb dX2_table_38 rfl (lv_at hl 0 rfl) ?_
          refine va_get (D := (dC, dI)) (ci := 2) (v := .ref (g 5)) (C := RX2) (T := TX2) (N := 6) hx hb hts (by decide +kernel) hown hK hP 0 rfl rfl 4 (by decide) (hts (.fieldLink RX2 22 "RevisionTreeModel" "reader" "[I") (by decide +kernel)) (fun _ h9 => h9) rfl dX2_table_39 ?_
          refine lv_iload_n hx hb dX2_table_42 rfl (lv_at hl 1 rfl) ?_
          refine zrdN hx hb hK hP 5 0 rfl rfl (j := j) (by omega) (by decide) dX2_table_43 ?_
          refine lv_iconst (v := nI 3) hx hb dX2_table_44 (by decide) ?_
          refine lv_irem hx hb dX2_table_45 (by decide) ?_
          refine zt (y := nI ((mR w j) % 3)) (pk_rem (by omega) (by omega) (by omega)) ?_
          exact W.iret (v := nI ((mR w j) % 3)) hx hb hr (fun t9 ht9 hW9 => ⟨⟨_, (), rfl, (mTb_z (a := view w) (r := nI j) (t := mR w j % 3) (aSt_ok (a := view w) hj (show ¬ mR w j + 3 ≤ mL w from mr_ge h_30 (by omega) (by omega))) (aTb_j (a := view w) hj)).symm, trivial⟩, hS.F ht9⟩) hS.2.2 dX2_table_46
        · refine lv_bipush (v := (-4)) hx hb dX2_table_33 (by decide) ?_
          refine lv_goto (tgt := 46) hx hb dX2_table_35 (by decide) ?_
          exact W.iret (v := (-4)) hx hb hr (fun t9 ht9 hW9 => ⟨⟨_, (), rfl, (mTb_n (a := view w) (r := nI j) (v := -4) (by decide) (aSt_gone (a := view w) hj (show mR w j + 3 ≤ mL w from mr_lt h_30 (by omega) (by omega)))).symm, trivial⟩, hS.F ht9⟩) hS.2.2 dX2_table_46
      · refine lv_iconst (v := nI 3) hx hb dX2_table_16 (by decide) ?_
        exact W.iret (v := nI 3) hx hb hr (fun t9 ht9 hW9 => ⟨⟨_, (), rfl, (mTb_z (a := view w) (r := r) (t := 3) (aSt_neg (a := view w) h_2 (i_lt h_13)) (aTb_n (a := view w) (i_lt h_13))).symm, trivial⟩, hS.F ht9⟩) hS.2.2 dX2_table_17
    · refine lv_iconst (v := (-1)) hx hb dX2_table_10 (by decide) ?_
      exact W.iret (v := (-1)) hx hb hr (fun t9 ht9 hW9 => ⟨⟨_, (), rfl, (mTb_n (a := view w) (r := r) (v := -1) (by decide) (aSt_out (a := view w) (Or.inr (i_lt (fun q => h_7 (r33.mpr (i_nl q))))))).symm, trivial⟩, hS.F ht9⟩) hS.2.2 dX2_table_11
end
section
set_option maxHeartbeats 4000000 in
set_option maxRecDepth 100000 in
/-- get -/
theorem c_Model_get (l : Launch) (dC : Nat → ClassId) (dI : Nat → Nat → Nat) (cI cT : ClassId) (g : Nat → Nat) (w : MS) (r k : Int32) (sz : Nat) (L : Nat) (hok : okR L (view w)) (hL : L < 500000) : Met l yX2_get wsX2_get ({ frames := 1, cells := 0, slots := 0, locals := 23 }) (va_Pc [.ref (g 0), .int r, .int k] (zPW (dC, dI) vwCl cI cT (wM g cI w) sz)) (zQl sz (aGet (view w) r k)) 0 0 (zfr sz) := by
  refine Met.ofW (cc := cX2_get) (maxL := 5) (ret := (some .long)) (by decide) rfl ?_
  intro p e s m args below meth c s₁ B hml hv
  obtain ⟨rfl, hsz, hP, hK, hD0⟩ := hv
  have hx := B.exec
  have hb := B.bytes
  have hr := B.returns
  have hts := atoms_spec (ws := wsX2_get) B.pre
  have hown : s.vm.findClass RX2 = some m.cls := findClass_of_methodNamed B.named
  have hlocks := B.notSynchronized
  subst hsz
  have hA : ∀ q : Nat, s.heap.size ≤ q → (fun q : Nat => s.heap.size ≤ q) q := fun _ h => h
  have hS : va_S (fun q : Nat => s.heap.size ≤ q) s.heap s.heap [] := va_S.rf
  have hD := hD0
  have hl := lv_entry ([.ref (g 0), .int r, .int k]) (n := 5) (Nat.le_of_ble_eq_true rfl)
  rw [lg_entry_eq]
  generalize (lg_sl ([.ref (g 0), .int r, .int k]) ++ List.replicate (5 - (lg_sl ([.ref (g 0), .int r, .int k])).length) Slot.unset).toArray = ls at hl ⊢
  have hl : lv_has ls 5 [(0, .ref (g 0)), (1, .int r), (2, .int k)] := hl
  have hle : ∀ t, t < 4 → mC w t ≤ 400 := fun t ht => by have h9 := (hok.1 t ht).1; rw [view_t w ht] at h9; exact h9
  have hc3 : mC w 3 ≤ 400 := hle 3 (by decide)
  have hlat : mL w ≤ L := hok.2.2
  refine lv_aload_n hx hb dX2_get_0 rfl (lv_at hl 0 rfl) ?_
  refine lv_iload_n hx hb dX2_get_1 rfl (lv_at hl 1 rfl) ?_
  refine zroi (va_runV (As := [.int r]) (rest := []) ⟨hx, hb, hml, hown, hts⟩ (c_Model_table l dC dI cI cT g w r s.heap.size L hok hL) (cwV 1 hts gX2_get_X2_table rfl rfl rfl (by decide +kernel) ⟨Nat.le_of_ble_eq_true rfl, Nat.le_of_ble_eq_true rfl⟩) (zpreV hK hP hD rfl 0 rfl) rfl rfl hl.1 rfl (lv_room (Nat.le_of_ble_eq_true rfl)) dX2_get_2 ⟨Nat.le_of_ble_eq_true rfl, Nat.le_of_ble_eq_true rfl⟩) hP hS hA (fun H locs hP hS => ?_)
  by_cases h0 : aSt (view w) r = 0
  · rw [show mTb (view w) r = nI (aTb (view w) r) from if_pos h0]
    obtain ⟨t, et⟩ : ∃ t, t = aTb (view w) r := ⟨_, rfl⟩
    rw [← et]
    have ht : t < 4 := by rw [et]; exact aTb_lt _ _
    have hct : mC w t ≤ 400 := hle t ht
    have hpl : tPl (vT w t) k ≤ mC w t := pl_le _ _ _
    refine lv_istore_n (lv' := [(3, .int (nI t)), (0, .ref (g 0)), (1, .int r), (2, .int k)]) hx hb dX2_get_5 rfl hl (by decide) rfl (fun ls hl => ?_)
    refine lv_iload_n hx hb dX2_get_6 rfl (lv_at hl 0 rfl) ?_
    refine lv_if_ge (tgt := 17) hx hb dX2_get_7 (by decide) (fun h_7 => ?_) (fun h_7 => absurd (nI_pos' (by omega)) h_7)
    refine lv_aload_n hx hb dX2_get_17 rfl (lv_at hl 1 rfl) ?_
    refine lv_iload_n hx hb dX2_get_18 rfl (lv_at hl 0 rfl) ?_
    refine lv_iload_n hx hb dX2_get_19 rfl (lv_at hl 3 rfl) ?_
    refine zroi (va_runV (As := [.int (nI t), .int k]) (rest := []) ⟨hx, hb, hml, hown, hts⟩ (c_Model_place l dC dI cI cT g w t k H.size ht hle) (cwV 2 hts gX2_get_X2_place rfl rfl rfl (by decide +kernel) ⟨Nat.le_of_ble_eq_true rfl, Nat.le_of_ble_eq_true rfl⟩) (zpreV hK hP hD rfl 0 rfl) rfl rfl hl.1 rfl (lv_room (Nat.le_of_ble_eq_true rfl)) dX2_get_20 ⟨Nat.le_of_ble_eq_true rfl, Nat.le_of_ble_eq_true rfl⟩) hP hS hA (fun H locs hP hS => ?_)
    refine lv_istore (lv' := [(4, .int (nI (400 * t + tPl (vT w t) k))), (3, .int (nI t)), (0, .ref (g 0)), (1, .int r), (2, .int k)]) hx hb dX2_get_23 hl (by decide) rfl (fun ls hl => ?_)
    refine lv_aload_n hx hb dX2_get_25 rfl (lv_at hl 2 rfl) ?_
    refine lv_iload_n hx hb dX2_get_26 rfl (lv_at hl 1 rfl) ?_
    refine lv_iload hx hb dX2_get_27 (lv_at hl 0 rfl) ?_
    refine lv_iload_n hx hb dX2_get_29 rfl (lv_at hl 4 rfl) ?_
    refine zroi (va_runV (As := [.int (nI t), .int (nI (400 * t + tPl (vT w t) k)), .int k]) (rest := []) ⟨hx, hb, hml, hown, hts⟩ (c_Model_is l dC dI cI cT g w t (tPl (vT w t) k) k H.size ht hle (by omega)) (cwV 3 hts gX2_get_X2_is rfl rfl rfl (by decide +kernel) ⟨Nat.le_of_ble_eq_true rfl, Nat.le_of_ble_eq_true rfl⟩) (zpreV hK hP hD rfl 0 rfl) rfl rfl hl.1 rfl (lv_room (Nat.le_of_ble_eq_true rfl)) dX2_get_30 ⟨Nat.le_of_ble_eq_true rfl, Nat.le_of_ble_eq_true rfl⟩) hP hS hA (fun H locs hP hS => ?_)
    refine zifeq (tgt := 47) hx hb dX2_get_33 (by decide) (fun h_33 => ?_) (fun h_33 => ?_)
    · refine lv_ldc2 (v := 1099511627774) hx hb hown (hts (.constantLong RX2 51 1099511627774) (by decide +kernel)) dX2_get_47 ?_
      exact W.lret (v := 1099511627774) hx hb hr (fun t9 ht9 hW9 => ⟨⟨_, (), rfl, by unfold aGet; rw [if_pos h0, ← et, view_t w ht, if_neg (show ¬ tHas (vT w t) k from h_33)], trivial⟩, hS.F ht9⟩) hS.2.2 dX2_get_50
    · have hlt : tPl (vT w t) k < mC w t := h_33.1
      refine lv_aload_n hx hb dX2_get_36 rfl (lv_at hl 2 rfl) ?_
      refine va_get (D := (dC, dI)) (ci := 2) (v := .ref (g 2)) (C := RX2) (T := TX2) (N := 6) hx hb hts (by decide +kernel) hown hK hP 0 rfl rfl 1 (by decide) (hts (.fieldLink RX2 13 "RevisionTreeModel" "value" "[I") (by decide +kernel)) (fun _ h9 => h9) rfl dX2_get_37 ?_
      refine lv_iload hx hb dX2_get_40 (lv_at hl 0 rfl) ?_
      refine zrdN hx hb hK hP 2 0 rfl rfl (j := 400 * t + tPl (vT w t) k) (by omega) (by decide) dX2_get_42 ?_
      refine lv_i2l hx hb dX2_get_43 rfl ?_
      refine lv_goto (tgt := 50) hx hb dX2_get_44 (by decide) ?_
      exact W.lret (v := ((mV w) (400 * t + tPl (vT w t) k)).toInt64) hx hb hr (fun t9 ht9 hW9 => ⟨⟨_, (), rfl, by unfold aGet; rw [if_pos h0, ← et, view_t w ht, if_pos (show tHas (vT w t) k from h_33)]; rfl, trivial⟩, hS.F ht9⟩) hS.2.2 dX2_get_50
  · rw [show mTb (view w) r = aSt (view w) r from if_neg h0]
    refine lv_istore_n (lv' := [(3, .int (aSt (view w) r)), (0, .ref (g 0)), (1, .int r), (2, .int k)]) hx hb dX2_get_5 rfl hl (by decide) rfl (fun ls hl => ?_)
    refine lv_iload_n hx hb dX2_get_6 rfl (lv_at hl 0 rfl) ?_
    refine lv_if_ge (tgt := 17) hx hb dX2_get_7 (by decide) (fun h_7 => absurd h_7 (by rcases aSt_c h0 with q | q <;> rw [q] <;> decide)) (fun h_7 => ?_)
    refine lv_ldc2 (v := 1099511627776) hx hb hown (hts (.constantLong RX2 49 1099511627776) (by decide +kernel)) dX2_get_10 ?_
    refine lv_iload_n hx hb dX2_get_13 rfl (lv_at hl 0 rfl) ?_
    refine lv_i2l hx hb dX2_get_14 rfl ?_
    refine lv_ladd hx hb dX2_get_15 ?_
    exact W.lret (v := 1099511627776 + ((aSt (view w) r).toInt64)) hx hb hr (fun t9 ht9 hW9 => ⟨⟨_, (), rfl, (if_neg h0).symm, trivial⟩, hS.F ht9⟩) hS.2.2 dX2_get_16
set_option maxHeartbeats 4000000 in
set_option maxRecDepth 100000 in
/-- size -/
theorem c_Model_size (l : Launch) (dC : Nat → ClassId) (dI : Nat → Nat → Nat) (cI cT : ClassId) (g : Nat → Nat) (w : MS) (r k : Int32) (sz : Nat) (L : Nat) (hok : okR L (view w)) (hL : L < 500000) : Met l yX2_size wsX2_size ({ frames := 1, cells := 0, slots := 0, locals := 23 }) (va_Pc [.ref (g 0), .int r, .int k] (zPW (dC, dI) vwCl cI cT (wM g cI w) sz)) (zQi sz (aSize (view w) r k)) 0 0 (zfr sz) := by
  refine Met.ofW (cc := cX2_size) (maxL := 5) (ret := (some .int)) (by decide) rfl ?_
  intro p e s m args below meth c s₁ B hml hv
  obtain ⟨rfl, hsz, hP, hK, hD0⟩ := hv
  have hx := B.exec
  have hb := B.bytes
  have hr := B.returns
  have hts := atoms_spec (ws := wsX2_size) B.pre
  have hown : s.vm.findClass RX2 = some m.cls := findClass_of_methodNamed B.named
  have hlocks := B.notSynchronized
  subst hsz
  have hA : ∀ q : Nat, s.heap.size ≤ q → (fun q : Nat => s.heap.size ≤ q) q := fun _ h => h
  have hS : va_S (fun q : Nat => s.heap.size ≤ q) s.heap s.heap [] := va_S.rf
  have hD := hD0
  have hl := lv_entry ([.ref (g 0), .int r, .int k]) (n := 5) (Nat.le_of_ble_eq_true rfl)
  rw [lg_entry_eq]
  generalize (lg_sl ([.ref (g 0), .int r, .int k]) ++ List.replicate (5 - (lg_sl ([.ref (g 0), .int r, .int k])).length) Slot.unset).toArray = ls at hl ⊢
  have hl : lv_has ls 5 [(0, .ref (g 0)), (1, .int r), (2, .int k)] := hl
  have hle : ∀ t, t < 4 → mC w t ≤ 400 := fun t ht => by have h9 := (hok.1 t ht).1; rw [view_t w ht] at h9; exact h9
  have hc3 : mC w 3 ≤ 400 := hle 3 (by decide)
  have hlat : mL w ≤ L := hok.2.2
  refine lv_aload_n hx hb dX2_size_0 rfl (lv_at hl 0 rfl) ?_
  refine lv_iload_n hx hb dX2_size_1 rfl (lv_at hl 1 rfl) ?_
  refine zroi (va_runV (As := [.int r]) (rest := []) ⟨hx, hb, hml, hown, hts⟩ (c_Model_table l dC dI cI cT g w r s.heap.size L hok hL) (cwV 1 hts gX2_size_X2_table rfl rfl rfl (by decide +kernel) ⟨Nat.le_of_ble_eq_true rfl, Nat.le_of_ble_eq_true rfl⟩) (zpreV hK hP hD rfl 0 rfl) rfl rfl hl.1 rfl (lv_room (Nat.le_of_ble_eq_true rfl)) dX2_size_2 ⟨Nat.le_of_ble_eq_true rfl, Nat.le_of_ble_eq_true rfl⟩) hP hS hA (fun H locs hP hS => ?_)
  by_cases h0 : aSt (view w) r = 0
  · rw [show mTb (view w) r = nI (aTb (view w) r) from if_pos h0]
    obtain ⟨t, et⟩ : ∃ t, t = aTb (view w) r := ⟨_, rfl⟩
    rw [← et]
    have ht : t < 4 := by rw [et]; exact aTb_lt _ _
    have hct : mC w t ≤ 400 := hle t ht
    have hpl : tPl (vT w t) k ≤ mC w t := pl_le _ _ _
    refine lv_istore_n (lv' := [(3, .int (nI t)), (0, .ref (g 0)), (1, .int r), (2, .int k)]) hx hb dX2_size_5 rfl hl (by decide) rfl (fun ls hl => ?_)
    refine lv_iload_n hx hb dX2_size_6 rfl (lv_at hl 0 rfl) ?_
    refine lv_if_ge (tgt := 12) hx hb dX2_size_7 (by decide) (fun h_7 => ?_) (fun h_7 => absurd (nI_pos' (by omega)) h_7)
    refine lv_aload_n hx hb dX2_size_12 rfl (lv_at hl 1 rfl) ?_
    refine lv_iload_n hx hb dX2_size_13 rfl (lv_at hl 0 rfl) ?_
    refine lv_iload_n hx hb dX2_size_14 rfl (lv_at hl 3 rfl) ?_
    refine zroi (va_runV (As := [.int (nI t), .int k]) (rest := []) ⟨hx, hb, hml, hown, hts⟩ (c_Model_place l dC dI cI cT g w t k H.size ht hle) (cwV 2 hts gX2_size_X2_place rfl rfl rfl (by decide +kernel) ⟨Nat.le_of_ble_eq_true rfl, Nat.le_of_ble_eq_true rfl⟩) (zpreV hK hP hD rfl 0 rfl) rfl rfl hl.1 rfl (lv_room (Nat.le_of_ble_eq_true rfl)) dX2_size_15 ⟨Nat.le_of_ble_eq_true rfl, Nat.le_of_ble_eq_true rfl⟩) hP hS hA (fun H locs hP hS => ?_)
    refine lv_istore (lv' := [(4, .int (nI (400 * t + tPl (vT w t) k))), (3, .int (nI t)), (0, .ref (g 0)), (1, .int r), (2, .int k)]) hx hb dX2_size_18 hl (by decide) rfl (fun ls hl => ?_)
    refine lv_aload_n hx hb dX2_size_20 rfl (lv_at hl 2 rfl) ?_
    refine lv_iload_n hx hb dX2_size_21 rfl (lv_at hl 1 rfl) ?_
    refine lv_iload hx hb dX2_size_22 (lv_at hl 0 rfl) ?_
    refine lv_iload_n hx hb dX2_size_24 rfl (lv_at hl 4 rfl) ?_
    refine zroi (va_runV (As := [.int (nI t), .int (nI (400 * t + tPl (vT w t) k)), .int k]) (rest := []) ⟨hx, hb, hml, hown, hts⟩ (c_Model_is l dC dI cI cT g w t (tPl (vT w t) k) k H.size ht hle (by omega)) (cwV 3 hts gX2_size_X2_is rfl rfl rfl (by decide +kernel) ⟨Nat.le_of_ble_eq_true rfl, Nat.le_of_ble_eq_true rfl⟩) (zpreV hK hP hD rfl 0 rfl) rfl rfl hl.1 rfl (lv_room (Nat.le_of_ble_eq_true rfl)) dX2_size_25 ⟨Nat.le_of_ble_eq_true rfl, Nat.le_of_ble_eq_true rfl⟩) hP hS hA (fun H locs hP hS => ?_)
    refine zifeq (tgt := 41) hx hb dX2_size_28 (by decide) (fun h_28 => ?_) (fun h_28 => ?_)
    · refine lv_bipush (v := (-2)) hx hb dX2_size_41 (by decide) ?_
      exact W.iret (v := (-2)) hx hb hr (fun t9 ht9 hW9 => ⟨⟨_, (), rfl, by unfold aSize; rw [if_pos h0, ← et, view_t w ht, if_neg (show ¬ tHas (vT w t) k from h_28)], trivial⟩, hS.F ht9⟩) hS.2.2 dX2_size_43
    · have hlt : tPl (vT w t) k < mC w t := h_28.1
      refine lv_aload_n hx hb dX2_size_31 rfl (lv_at hl 2 rfl) ?_
      refine va_get (D := (dC, dI)) (ci := 2) (v := .ref (g 3)) (C := RX2) (T := TX2) (N := 6) hx hb hts (by decide +kernel) hown hK hP 0 rfl rfl 2 (by decide) (hts (.fieldLink RX2 16 "RevisionTreeModel" "size" "[I") (by decide +kernel)) (fun _ h9 => h9) rfl dX2_size_32 ?_
      refine lv_iload hx hb dX2_size_35 (lv_at hl 0 rfl) ?_
      refine zrdN hx hb hK hP 3 0 rfl rfl (j := 400 * t + tPl (vT w t) k) (by omega) (by decide) dX2_size_37 ?_
      refine lv_goto (tgt := 43) hx hb dX2_size_38 (by decide) ?_
      exact W.iret (v := (mS w) (400 * t + tPl (vT w t) k)) hx hb hr (fun t9 ht9 hW9 => ⟨⟨_, (), rfl, by unfold aSize; rw [if_pos h0, ← et, view_t w ht, if_pos (show tHas (vT w t) k from h_28)]; rfl, trivial⟩, hS.F ht9⟩) hS.2.2 dX2_size_43
  · rw [show mTb (view w) r = aSt (view w) r from if_neg h0]
    refine lv_istore_n (lv' := [(3, .int (aSt (view w) r)), (0, .ref (g 0)), (1, .int r), (2, .int k)]) hx hb dX2_size_5 rfl hl (by decide) rfl (fun ls hl => ?_)
    refine lv_iload_n hx hb dX2_size_6 rfl (lv_at hl 0 rfl) ?_
    refine lv_if_ge (tgt := 12) hx hb dX2_size_7 (by decide) (fun h_7 => absurd h_7 (by rcases aSt_c h0 with q | q <;> rw [q] <;> decide)) (fun h_7 => ?_)
    refine lv_iload_n hx hb dX2_size_10 rfl (lv_at hl 0 rfl) ?_
    exact W.iret (v := aSt (view w) r) hx hb hr (fun t9 ht9 hW9 => ⟨⟨_, (), rfl, (if_neg h0).symm, trivial⟩, hS.F ht9⟩) hS.2.2 dX2_size_11
set_option maxHeartbeats 4000000 in
set_option maxRecDepth 100000 in
/-- next -/
theorem c_Model_next (l : Launch) (dC : Nat → ClassId) (dI : Nat → Nat → Nat) (cI cT : ClassId) (g : Nat → Nat) (w : MS) (r k : Int32) (sz : Nat) (L : Nat) (hok : okR L (view w)) (hL : L < 500000) : Met l yX2_next wsX2_next ({ frames := 1, cells := 0, slots := 0, locals := 23 }) (va_Pc [.ref (g 0), .int r, .int k] (zPW (dC, dI) vwCl cI cT (wM g cI w) sz)) (zQl sz (aNext (view w) r k)) 0 0 (zfr sz) := by
  refine Met.ofW (cc := cX2_next) (maxL := 5) (ret := (some .long)) (by decide) rfl ?_
  intro p e s m args below meth c s₁ B hml hv
  obtain ⟨rfl, hsz, hP, hK, hD0⟩ := hv
  have hx := B.exec
  have hb := B.bytes
  have hr := B.returns
  have hts := atoms_spec (ws := wsX2_next) B.pre
  have hown : s.vm.findClass RX2 = some m.cls := findClass_of_methodNamed B.named
  have hlocks := B.notSynchronized
  subst hsz
  have hA : ∀ q : Nat, s.heap.size ≤ q → (fun q : Nat => s.heap.size ≤ q) q := fun _ h => h
  have hS : va_S (fun q : Nat => s.heap.size ≤ q) s.heap s.heap [] := va_S.rf
  have hD := hD0
  have hl := lv_entry ([.ref (g 0), .int r, .int k]) (n := 5) (Nat.le_of_ble_eq_true rfl)
  rw [lg_entry_eq]
  generalize (lg_sl ([.ref (g 0), .int r, .int k]) ++ List.replicate (5 - (lg_sl ([.ref (g 0), .int r, .int k])).length) Slot.unset).toArray = ls at hl ⊢
  have hl : lv_has ls 5 [(0, .ref (g 0)), (1, .int r), (2, .int k)] := hl
  have hle : ∀ t, t < 4 → mC w t ≤ 400 := fun t ht => by have h9 := (hok.1 t ht).1; rw [view_t w ht] at h9; exact h9
  have hc3 : mC w 3 ≤ 400 := hle 3 (by decide)
  have hlat : mL w ≤ L := hok.2.2
  refine lv_aload_n hx hb dX2_next_0 rfl (lv_at hl 0 rfl) ?_
  refine lv_iload_n hx hb dX2_next_1 rfl (lv_at hl 1 rfl) ?_
  refine zroi (va_runV (As := [.int r]) (rest := []) ⟨hx, hb, hml, hown, hts⟩ (c_Model_table l dC dI cI cT g w r s.heap.size L hok hL) (cwV 1 hts gX2_next_X2_table rfl rfl rfl (by decide +kernel) ⟨Nat.le_of_ble_eq_true rfl, Nat.le_of_ble_eq_true rfl⟩) (zpreV hK hP hD rfl 0 rfl) rfl rfl hl.1 rfl (lv_room (Nat.le_of_ble_eq_true rfl)) dX2_next_2 ⟨Nat.le_of_ble_eq_true rfl, Nat.le_of_ble_eq_true rfl⟩) hP hS hA (fun H locs hP hS => ?_)
  by_cases h0 : aSt (view w) r = 0
  · rw [show mTb (view w) r = nI (aTb (view w) r) from if_pos h0]
    obtain ⟨t, et⟩ : ∃ t, t = aTb (view w) r := ⟨_, rfl⟩
    rw [← et]
    have ht : t < 4 := by rw [et]; exact aTb_lt _ _
    have hct : mC w t ≤ 400 := hle t ht
    have hpl : tPl (vT w t) k ≤ mC w t := pl_le _ _ _
    refine lv_istore_n (lv' := [(3, .int (nI t)), (0, .ref (g 0)), (1, .int r), (2, .int k)]) hx hb dX2_next_5 rfl hl (by decide) rfl (fun ls hl => ?_)
    refine lv_iload_n hx hb dX2_next_6 rfl (lv_at hl 0 rfl) ?_
    refine lv_if_ge (tgt := 17) hx hb dX2_next_7 (by decide) (fun h_7 => ?_) (fun h_7 => absurd (nI_pos' (by omega)) h_7)
    refine lv_aload_n hx hb dX2_next_17 rfl (lv_at hl 1 rfl) ?_
    refine lv_iload_n hx hb dX2_next_18 rfl (lv_at hl 0 rfl) ?_
    refine lv_iload_n hx hb dX2_next_19 rfl (lv_at hl 3 rfl) ?_
    refine zroi (va_runV (As := [.int (nI t), .int k]) (rest := []) ⟨hx, hb, hml, hown, hts⟩ (c_Model_place l dC dI cI cT g w t k H.size ht hle) (cwV 2 hts gX2_next_X2_place rfl rfl rfl (by decide +kernel) ⟨Nat.le_of_ble_eq_true rfl, Nat.le_of_ble_eq_true rfl⟩) (zpreV hK hP hD rfl 0 rfl) rfl rfl hl.1 rfl (lv_room (Nat.le_of_ble_eq_true rfl)) dX2_next_20 ⟨Nat.le_of_ble_eq_true rfl, Nat.le_of_ble_eq_true rfl⟩) hP hS hA (fun H locs hP hS => ?_)
    refine lv_istore (lv' := [(4, .int (nI (400 * t + tPl (vT w t) k))), (3, .int (nI t)), (0, .ref (g 0)), (1, .int r), (2, .int k)]) hx hb dX2_next_23 hl (by decide) rfl (fun ls hl => ?_)
    refine lv_aload_n hx hb dX2_next_25 rfl (lv_at hl 2 rfl) ?_
    refine lv_iload_n hx hb dX2_next_26 rfl (lv_at hl 1 rfl) ?_
    refine lv_iload hx hb dX2_next_27 (lv_at hl 0 rfl) ?_
    refine lv_iload_n hx hb dX2_next_29 rfl (lv_at hl 4 rfl) ?_
    refine zroi (va_runV (As := [.int (nI t), .int (nI (400 * t + tPl (vT w t) k)), .int k]) (rest := []) ⟨hx, hb, hml, hown, hts⟩ (c_Model_is l dC dI cI cT g w t (tPl (vT w t) k) k H.size ht hle (by omega)) (cwV 3 hts gX2_next_X2_is rfl rfl rfl (by decide +kernel) ⟨Nat.le_of_ble_eq_true rfl, Nat.le_of_ble_eq_true rfl⟩) (zpreV hK hP hD rfl 0 rfl) rfl rfl hl.1 rfl (lv_room (Nat.le_of_ble_eq_true rfl)) dX2_next_30 ⟨Nat.le_of_ble_eq_true rfl, Nat.le_of_ble_eq_true rfl⟩) hP hS hA (fun H locs hP hS => ?_)
    refine zifeq (tgt := 39) hx hb dX2_next_33 (by decide) (fun h_33 => ?_) (fun h_33 => ?_)
    · refine lv_iload hx hb dX2_next_39 (lv_at hl 0 rfl) ?_
      refine lv_sipush (v := nI 400) hx hb dX2_next_41 (by decide) ?_
      refine lv_iload_n hx hb dX2_next_44 rfl (lv_at hl 1 rfl) ?_
      refine lv_imul hx hb dX2_next_45 ?_
      refine zt (y := nI (400 * t)) (pk_mul _ _) ?_
      refine lv_aload_n hx hb dX2_next_46 rfl (lv_at hl 2 rfl) ?_
      refine va_get (D := (dC, dI)) (ci := 2) (v := .ref (g 4)) (C := RX2) (T := TX2) (N := 6) hx hb hts (by decide +kernel) hown hK hP 0 rfl rfl 3 (by decide) (hts (.fieldLink RX2 19 "RevisionTreeModel" "count" "[I") (by decide +kernel)) (fun _ h9 => h9) rfl dX2_next_47 ?_
      refine lv_iload_n hx hb dX2_next_50 rfl (lv_at hl 1 rfl) ?_
      refine zrdN hx hb hK hP 4 0 rfl rfl (j := t) (by omega) (by decide) dX2_next_51 ?_
      refine lv_iadd hx hb dX2_next_52 ?_
      refine zt (y := nI ((400 * t) + (mC w t))) (nI_add _ _) ?_
      refine zge (tgt := 67) hx hb dX2_next_53 (by decide) (by omega) (by omega) (fun h_53 => ?_) (fun h_53 => ?_)
      · refine lv_ldc2 (v := 1099511627774) hx hb hown (hts (.constantLong RX2 51 1099511627774) (by decide +kernel)) dX2_next_67 ?_
        have eab : tAb (vT w t) k = tPl (vT w t) k := if_neg h_33
        exact W.lret (v := 1099511627774) hx hb hr (fun t9 ht9 hW9 => ⟨⟨_, (), rfl, by unfold aNext; rw [if_pos h0, ← et, view_t w ht, eab, if_neg (show ¬ tPl (vT w t) k < (vT w t).1 from (show ¬ tPl (vT w t) k < mC w t by omega))], trivial⟩, hS.F ht9⟩) hS.2.2 dX2_next_70
      · refine lv_aload_n hx hb dX2_next_56 rfl (lv_at hl 2 rfl) ?_
        refine va_get (D := (dC, dI)) (ci := 2) (v := .ref (g 1)) (C := RX2) (T := TX2) (N := 6) hx hb hts (by decide +kernel) hown hK hP 0 rfl rfl 0 (by decide) (hts (.fieldLink RX2 9 "RevisionTreeModel" "key" "[I") (by decide +kernel)) (fun _ h9 => h9) rfl dX2_next_57 ?_
        refine lv_iload hx hb dX2_next_60 (lv_at hl 0 rfl) ?_
        refine zrdN hx hb hK hP 1 0 rfl rfl (j := 400 * t + tPl (vT w t) k) (by omega) (by decide) dX2_next_62 ?_
        refine lv_i2l hx hb dX2_next_63 rfl ?_
        refine lv_goto (tgt := 70) hx hb dX2_next_64 (by decide) ?_
        have eab : tAb (vT w t) k = tPl (vT w t) k := if_neg h_33
        exact W.lret (v := ((mK w) (400 * t + tPl (vT w t) k)).toInt64) hx hb hr (fun t9 ht9 hW9 => ⟨⟨_, (), rfl, by unfold aNext; rw [if_pos h0, ← et, view_t w ht, eab, if_pos (show tPl (vT w t) k < (vT w t).1 from (show tPl (vT w t) k < mC w t by omega))]; rfl, trivial⟩, hS.F ht9⟩) hS.2.2 dX2_next_70
    · refine lv_iinc (v := nI ((400 * t + tPl (vT w t) k) + 1)) (lv' := [(4, .int (nI ((400 * t + tPl (vT w t) k) + 1))), (3, .int (nI t)), (0, .ref (g 0)), (1, .int r), (2, .int k)]) hx hb dX2_next_36 hl (k := 0) rfl (zinc _) (by decide) rfl (fun ls hl => ?_)
      refine lv_iload hx hb dX2_next_39 (lv_at hl 0 rfl) ?_
      refine lv_sipush (v := nI 400) hx hb dX2_next_41 (by decide) ?_
      refine lv_iload_n hx hb dX2_next_44 rfl (lv_at hl 1 rfl) ?_
      refine lv_imul hx hb dX2_next_45 ?_
      refine zt (y := nI (400 * t)) (pk_mul _ _) ?_
      refine lv_aload_n hx hb dX2_next_46 rfl (lv_at hl 2 rfl) ?_
      refine va_get (D := (dC, dI)) (ci := 2) (v := .ref (g 4)) (C := RX2) (T := TX2) (N := 6) hx hb hts (by decide +kernel) hown hK hP 0 rfl rfl 3 (by decide) (hts (.fieldLink RX2 19 "RevisionTreeModel" "count" "[I") (by decide +kernel)) (fun _ h9 => h9) rfl dX2_next_47 ?_
      refine lv_iload_n hx hb dX2_next_50 rfl (lv_at hl 1 rfl) ?_
      refine zrdN hx hb hK hP 4 0 rfl rfl (j := t) (by omega) (by decide) dX2_next_51 ?_
      refine lv_iadd hx hb dX2_next_52 ?_
      refine zt (y := nI ((400 * t) + (mC w t))) (nI_add _ _) ?_
      refine zge (tgt := 67) hx hb dX2_next_53 (by decide) (by omega) (by omega) (fun h_53 => ?_) (fun h_53 => ?_)
      · refine lv_ldc2 (v := 1099511627774) hx hb hown (hts (.constantLong RX2 51 1099511627774) (by decide +kernel)) dX2_next_67 ?_
        have eab : tAb (vT w t) k = tPl (vT w t) k + 1 := if_pos h_33
        exact W.lret (v := 1099511627774) hx hb hr (fun t9 ht9 hW9 => ⟨⟨_, (), rfl, by unfold aNext; rw [if_pos h0, ← et, view_t w ht, eab, if_neg (show ¬ tPl (vT w t) k + 1 < (vT w t).1 from (show ¬ tPl (vT w t) k + 1 < mC w t by omega))], trivial⟩, hS.F ht9⟩) hS.2.2 dX2_next_70
      · refine lv_aload_n hx hb dX2_next_56 rfl (lv_at hl 2 rfl) ?_
        refine va_get (D := (dC, dI)) (ci := 2) (v := .ref (g 1)) (C := RX2) (T := TX2) (N := 6) hx hb hts (by decide +kernel) hown hK hP 0 rfl rfl 0 (by decide) (hts (.fieldLink RX2 9 "RevisionTreeModel" "key" "[I") (by decide +kernel)) (fun _ h9 => h9) rfl dX2_next_57 ?_
        refine lv_iload hx hb dX2_next_60 (lv_at hl 0 rfl) ?_
        refine zrdN hx hb hK hP 1 0 rfl rfl (j := (400 * t + tPl (vT w t) k) + 1) (by omega) (by decide) dX2_next_62 ?_
        refine lv_i2l hx hb dX2_next_63 rfl ?_
        refine lv_goto (tgt := 70) hx hb dX2_next_64 (by decide) ?_
        have eab : tAb (vT w t) k = tPl (vT w t) k + 1 := if_pos h_33
        exact W.lret (v := ((mK w) ((400 * t + tPl (vT w t) k) + 1)).toInt64) hx hb hr (fun t9 ht9 hW9 => ⟨⟨_, (), rfl, by unfold aNext; rw [if_pos h0, ← et, view_t w ht, eab, if_pos (show tPl (vT w t) k + 1 < (vT w t).1 from (show tPl (vT w t) k + 1 < mC w t by omega))]; rfl, trivial⟩, hS.F ht9⟩) hS.2.2 dX2_next_70
  · rw [show mTb (view w) r = aSt (view w) r from if_neg h0]
    refine lv_istore_n (lv' := [(3, .int (aSt (view w) r)), (0, .ref (g 0)), (1, .int r), (2, .int k)]) hx hb dX2_next_5 rfl hl (by decide) rfl (fun ls hl => ?_)
    refine lv_iload_n hx hb dX2_next_6 rfl (lv_at hl 0 rfl) ?_
    refine lv_if_ge (tgt := 17) hx hb dX2_next_7 (by decide) (fun h_7 => absurd h_7 (by rcases aSt_c h0 with q | q <;> rw [q] <;> decide)) (fun h_7 => ?_)
    refine lv_ldc2 (v := 1099511627776) hx hb hown (hts (.constantLong RX2 49 1099511627776) (by decide +kernel)) dX2_next_10 ?_
    refine lv_iload_n hx hb dX2_next_13 rfl (lv_at hl 0 rfl) ?_
    refine lv_i2l hx hb dX2_next_14 rfl ?_
    refine lv_ladd hx hb dX2_next_15 ?_
    exact W.lret (v := 1099511627776 + ((aSt (view w) r).toInt64)) hx hb hr (fun t9 ht9 hW9 => ⟨⟨_, (), rfl, (if_neg h0).symm, trivial⟩, hS.F ht9⟩) hS.2.2 dX2_next_16
set_option maxHeartbeats 4000000 in
set_option maxRecDepth 100000 in
/-- count -/
theorem c_Model_count (l : Launch) (dC : Nat → ClassId) (dI : Nat → Nat → Nat) (cI cT : ClassId) (g : Nat → Nat) (w : MS) (r : Int32) (sz : Nat) (L : Nat) (hok : okR L (view w)) (hL : L < 500000) : Met l yX2_count wsX2_count ({ frames := 1, cells := 0, slots := 0, locals := 21 }) (va_Pc [.ref (g 0), .int r] (zPW (dC, dI) vwCl cI cT (wM g cI w) sz)) (zQi sz (aCount (view w) r)) 0 0 (zfr sz) := by
  refine Met.ofW (cc := cX2_count) (maxL := 3) (ret := (some .int)) (by decide) rfl ?_
  intro p e s m args below meth c s₁ B hml hv
  obtain ⟨rfl, hsz, hP, hK, hD0⟩ := hv
  have hx := B.exec
  have hb := B.bytes
  have hr := B.returns
  have hts := atoms_spec (ws := wsX2_count) B.pre
  have hown : s.vm.findClass RX2 = some m.cls := findClass_of_methodNamed B.named
  have hlocks := B.notSynchronized
  subst hsz
  have hA : ∀ q : Nat, s.heap.size ≤ q → (fun q : Nat => s.heap.size ≤ q) q := fun _ h => h
  have hS : va_S (fun q : Nat => s.heap.size ≤ q) s.heap s.heap [] := va_S.rf
  have hD := hD0
  have hl := lv_entry ([.ref (g 0), .int r]) (n := 3) (Nat.le_of_ble_eq_true rfl)
  rw [lg_entry_eq]
  generalize (lg_sl ([.ref (g 0), .int r]) ++ List.replicate (3 - (lg_sl ([.ref (g 0), .int r])).length) Slot.unset).toArray = ls at hl ⊢
  have hl : lv_has ls 3 [(0, .ref (g 0)), (1, .int r)] := hl
  have hle : ∀ t, t < 4 → mC w t ≤ 400 := fun t ht => by have h9 := (hok.1 t ht).1; rw [view_t w ht] at h9; exact h9
  have hc3 : mC w 3 ≤ 400 := hle 3 (by decide)
  have hlat : mL w ≤ L := hok.2.2
  refine lv_aload_n hx hb dX2_count_0 rfl (lv_at hl 0 rfl) ?_
  refine lv_iload_n hx hb dX2_count_1 rfl (lv_at hl 1 rfl) ?_
  refine zroi (va_runV (As := [.int r]) (rest := []) ⟨hx, hb, hml, hown, hts⟩ (c_Model_table l dC dI cI cT g w r s.heap.size L hok hL) (cwV 1 hts gX2_count_X2_table rfl rfl rfl (by decide +kernel) ⟨Nat.le_of_ble_eq_true rfl, Nat.le_of_ble_eq_true rfl⟩) (zpreV hK hP hD rfl 0 rfl) rfl rfl hl.1 rfl (lv_room (Nat.le_of_ble_eq_true rfl)) dX2_count_2 ⟨Nat.le_of_ble_eq_true rfl, Nat.le_of_ble_eq_true rfl⟩) hP hS hA (fun H locs hP hS => ?_)
  by_cases h0 : aSt (view w) r = 0
  · rw [show mTb (view w) r = nI (aTb (view w) r) from if_pos h0]
    obtain ⟨t, et⟩ : ∃ t, t = aTb (view w) r := ⟨_, rfl⟩
    rw [← et]
    have ht : t < 4 := by rw [et]; exact aTb_lt _ _
    have hct : mC w t ≤ 400 := hle t ht
    refine lv_istore_n (lv' := [(2, .int (nI t)), (0, .ref (g 0)), (1, .int r)]) hx hb dX2_count_5 rfl hl (by decide) rfl (fun ls hl => ?_)
    refine lv_iload_n hx hb dX2_count_6 rfl (lv_at hl 0 rfl) ?_
    refine lv_if_ge (tgt := 14) hx hb dX2_count_7 (by decide) (fun h_7 => ?_) (fun h_7 => absurd (nI_pos' (by omega)) h_7)
    refine lv_aload_n hx hb dX2_count_14 rfl (lv_at hl 1 rfl) ?_
    refine va_get (D := (dC, dI)) (ci := 2) (v := .ref (g 4)) (C := RX2) (T := TX2) (N := 6) hx hb hts (by decide +kernel) hown hK hP 0 rfl rfl 3 (by decide) (hts (.fieldLink RX2 19 "RevisionTreeModel" "count" "[I") (by decide +kernel)) (fun _ h9 => h9) rfl dX2_count_15 ?_
    refine lv_iload_n hx hb dX2_count_18 rfl (lv_at hl 0 rfl) ?_
    refine zrdN hx hb hK hP 4 0 rfl rfl (j := t) (by omega) (by decide) dX2_count_19 ?_
    exact W.iret (v := nI (mC w t)) hx hb hr (fun t9 ht9 hW9 => ⟨⟨_, (), rfl, by unfold aCount; rw [if_pos h0, ← et, view_t w ht]; rfl, trivial⟩, hS.F ht9⟩) hS.2.2 dX2_count_20
  · rw [show mTb (view w) r = aSt (view w) r from if_neg h0]
    refine lv_istore_n (lv' := [(2, .int (aSt (view w) r)), (0, .ref (g 0)), (1, .int r)]) hx hb dX2_count_5 rfl hl (by decide) rfl (fun ls hl => ?_)
    refine lv_iload_n hx hb dX2_count_6 rfl (lv_at hl 0 rfl) ?_
    refine lv_if_ge (tgt := 14) hx hb dX2_count_7 (by decide) (fun h_7 => absurd h_7 (by rcases aSt_c h0 with q | q <;> rw [q] <;> decide)) (fun h_7 => ?_)
    refine lv_iload_n hx hb dX2_count_10 rfl (lv_at hl 0 rfl) ?_
    refine lv_goto (tgt := 20) hx hb dX2_count_11 (by decide) ?_
    exact W.iret (v := aSt (view w) r) hx hb hr (fun t9 ht9 hW9 => ⟨⟨_, (), rfl, (if_neg h0).symm, trivial⟩, hS.F ht9⟩) hS.2.2 dX2_count_20
set_option maxHeartbeats 4000000 in
set_option maxRecDepth 100000 in
/-- digest -/
theorem c_Model_digest (l : Launch) (dC : Nat → ClassId) (dI : Nat → Nat → Nat) (cI cT : ClassId) (g : Nat → Nat) (w : MS) (r : Int32) (sz : Nat) (L : Nat) (hok : okR L (view w)) (hL : L < 500000) : Met l yX2_digest wsX2_digest ({ frames := 1, cells := 0, slots := 0, locals := 21 }) (va_Pc [.ref (g 0), .int r] (zPW (dC, dI) vwCl cI cT (wM g cI w) sz)) (zQi sz (aDigest (view w) r)) 0 0 (zfr sz) := by
  refine Met.ofW (cc := cX2_digest) (maxL := 5) (ret := (some .int)) (by decide) rfl ?_
  intro p e s m args below meth c s₁ B hml hv
  obtain ⟨rfl, hsz, hP, hK, hD0⟩ := hv
  have hx := B.exec
  have hb := B.bytes
  have hr := B.returns
  have hts := atoms_spec (ws := wsX2_digest) B.pre
  have hown : s.vm.findClass RX2 = some m.cls := findClass_of_methodNamed B.named
  have hlocks := B.notSynchronized
  subst hsz
  have hA : ∀ q : Nat, s.heap.size ≤ q → (fun q : Nat => s.heap.size ≤ q) q := fun _ h => h
  have hS : va_S (fun q : Nat => s.heap.size ≤ q) s.heap s.heap [] := va_S.rf
  have hD := hD0
  have hl := lv_entry ([.ref (g 0), .int r]) (n := 5) (Nat.le_of_ble_eq_true rfl)
  rw [lg_entry_eq]
  generalize (lg_sl ([.ref (g 0), .int r]) ++ List.replicate (5 - (lg_sl ([.ref (g 0), .int r])).length) Slot.unset).toArray = ls at hl ⊢
  have hl : lv_has ls 5 [(0, .ref (g 0)), (1, .int r)] := hl
  have hle : ∀ t, t < 4 → mC w t ≤ 400 := fun t ht => by have h9 := (hok.1 t ht).1; rw [view_t w ht] at h9; exact h9
  have hc3 : mC w 3 ≤ 400 := hle 3 (by decide)
  have hlat : mL w ≤ L := hok.2.2
  refine lv_aload_n hx hb dX2_digest_0 rfl (lv_at hl 0 rfl) ?_
  refine lv_iload_n hx hb dX2_digest_1 rfl (lv_at hl 1 rfl) ?_
  refine zroi (va_runV (As := [.int r]) (rest := []) ⟨hx, hb, hml, hown, hts⟩ (c_Model_table l dC dI cI cT g w r s.heap.size L hok hL) (cwV 1 hts gX2_digest_X2_table rfl rfl rfl (by decide +kernel) ⟨Nat.le_of_ble_eq_true rfl, Nat.le_of_ble_eq_true rfl⟩) (zpreV hK hP hD rfl 0 rfl) rfl rfl hl.1 rfl (lv_room (Nat.le_of_ble_eq_true rfl)) dX2_digest_2 ⟨Nat.le_of_ble_eq_true rfl, Nat.le_of_ble_eq_true rfl⟩) hP hS hA (fun H locs hP hS => ?_)
  by_cases h0 : aSt (view w) r = 0
  · rw [show mTb (view w) r = nI (aTb (view w) r) from if_pos h0]
    obtain ⟨t, et⟩ : ∃ t, t = aTb (view w) r := ⟨_, rfl⟩
    rw [← et]
    have ht : t < 4 := by rw [et]; exact aTb_lt _ _
    have hct : mC w t ≤ 400 := hle t ht
    refine lv_istore_n (lv' := [(2, .int (nI t)), (0, .ref (g 0)), (1, .int r)]) hx hb dX2_digest_5 rfl hl (by decide) rfl (fun ls hl => ?_)
    refine lv_iload_n hx hb dX2_digest_6 rfl (lv_at hl 0 rfl) ?_
    refine lv_if_ge (tgt := 12) hx hb dX2_digest_7 (by decide) (fun h_7 => ?_) (fun h_7 => absurd (nI_pos' (by omega)) h_7)
    refine lv_iconst (v := nI 0) hx hb dX2_digest_12 (by decide) ?_
    refine lv_istore_n (lv' := [(3, .int (nI 0)), (2, .int (nI t)), (0, .ref (g 0)), (1, .int r)]) hx hb dX2_digest_13 rfl hl (by decide) rfl (fun ls hl => ?_)
    refine lv_sipush (v := nI 400) hx hb dX2_digest_14 (by decide) ?_
    refine lv_iload_n hx hb dX2_digest_17 rfl (lv_at hl 1 rfl) ?_
    refine lv_imul hx hb dX2_digest_18 ?_
    refine zt (y := nI (400 * t)) (pk_mul _ _) ?_
    refine lv_istore (lv' := [(4, .int (nI (400 * t))), (3, .int (nI 0)), (2, .int (nI t)), (0, .ref (g 0)), (1, .int r)]) hx hb dX2_digest_19 hl (by decide) rfl (fun ls hl => ?_)
    refine zloop (σ := Nat) (fun q H locs ls => q ≤ mC w t ∧ va_P (dC, dI) vwCl (wM g cI w) H ∧ va_S (fun q : Nat => s.heap.size ≤ q) s.heap H locs ∧ lv_has ls 5 [(0, .ref (g 0)), (2, .int (nI t)), (3, .int (dgF (fun j => mK w (400 * t + j)) (fun j => mV w (400 * t + j)) (fun j => mS w (400 * t + j)) q)), (4, .int (nI (400 * t + q)))]) (fun q => mC w t - q) ?_ 0 ⟨Nat.zero_le _, hP, hS, lv_sub hl [3, 2, 1, 0] rfl⟩
    rintro q H locs ls ⟨h1, hP, hS, hl⟩ ih
    refine lv_iload hx hb dX2_digest_21 (lv_at hl 3 rfl) ?_
    refine lv_sipush (v := nI 400) hx hb dX2_digest_23 (by decide) ?_
    refine lv_iload_n hx hb dX2_digest_26 rfl (lv_at hl 1 rfl) ?_
    refine lv_imul hx hb dX2_digest_27 ?_
    refine zt (y := nI (400 * t)) (pk_mul _ _) ?_
    refine lv_aload_n hx hb dX2_digest_28 rfl (lv_at hl 0 rfl) ?_
    refine va_get (D := (dC, dI)) (ci := 2) (v := .ref (g 4)) (C := RX2) (T := TX2) (N := 6) hx hb hts (by decide +kernel) hown hK hP 0 rfl rfl 3 (by decide) (hts (.fieldLink RX2 19 "RevisionTreeModel" "count" "[I") (by decide +kernel)) (fun _ h9 => h9) rfl dX2_digest_29 ?_
    refine lv_iload_n hx hb dX2_digest_32 rfl (lv_at hl 1 rfl) ?_
    refine zrdN hx hb hK hP 4 0 rfl rfl (j := t) (by omega) (by decide) dX2_digest_33 ?_
    refine lv_iadd hx hb dX2_digest_34 ?_
    refine zt (y := nI ((400 * t) + (mC w t))) (nI_add _ _) ?_
    refine zge (tgt := 78) hx hb dX2_digest_35 (by decide) (by omega) (by omega) (fun h_35 => ?_) (fun h_35 => ?_)
    · refine lv_iload_n hx hb dX2_digest_78 rfl (lv_at hl 2 rfl) ?_
      have ei : q = mC w t := by omega
      exact W.iret (v := dgF (fun j => mK w (400 * t + j)) (fun j => mV w (400 * t + j)) (fun j => mS w (400 * t + j)) q) hx hb hr (fun t9 ht9 hW9 => ⟨⟨_, (), rfl, by unfold aDigest; rw [if_pos h0, ← et, view_t w ht, ei]; rfl, trivial⟩, hS.F ht9⟩) hS.2.2 dX2_digest_79
    · refine lv_iload_n hx hb dX2_digest_38 rfl (lv_at hl 2 rfl) ?_
      refine lv_bipush (v := nI 31) hx hb dX2_digest_39 (by decide) ?_
      refine lv_imul hx hb dX2_digest_41 ?_
      refine lv_aload_n hx hb dX2_digest_42 rfl (lv_at hl 0 rfl) ?_
      refine va_get (D := (dC, dI)) (ci := 2) (v := .ref (g 1)) (C := RX2) (T := TX2) (N := 6) hx hb hts (by decide +kernel) hown hK hP 0 rfl rfl 0 (by decide) (hts (.fieldLink RX2 9 "RevisionTreeModel" "key" "[I") (by decide +kernel)) (fun _ h9 => h9) rfl dX2_digest_43 ?_
      refine lv_iload hx hb dX2_digest_46 (lv_at hl 3 rfl) ?_
      refine zrdN hx hb hK hP 1 0 rfl rfl (j := 400 * t + q) (by omega) (by decide) dX2_digest_48 ?_
      refine lv_iadd hx hb dX2_digest_49 ?_
      refine lv_istore_n (lv' := [(3, .int (((dgF (fun j => mK w (400 * t + j)) (fun j => mV w (400 * t + j)) (fun j => mS w (400 * t + j)) q) * (nI 31)) + ((mK w) (400 * t + q)))), (0, .ref (g 0)), (2, .int (nI t)), (4, .int (nI (400 * t + q)))]) hx hb dX2_digest_50 rfl hl (by decide) rfl (fun ls hl => ?_)
      refine lv_iload_n hx hb dX2_digest_51 rfl (lv_at hl 0 rfl) ?_
      refine lv_bipush (v := nI 31) hx hb dX2_digest_52 (by decide) ?_
      refine lv_imul hx hb dX2_digest_54 ?_
      refine lv_aload_n hx hb dX2_digest_55 rfl (lv_at hl 1 rfl) ?_
      refine va_get (D := (dC, dI)) (ci := 2) (v := .ref (g 2)) (C := RX2) (T := TX2) (N := 6) hx hb hts (by decide +kernel) hown hK hP 0 rfl rfl 1 (by decide) (hts (.fieldLink RX2 13 "RevisionTreeModel" "value" "[I") (by decide +kernel)) (fun _ h9 => h9) rfl dX2_digest_56 ?_
      refine lv_iload hx hb dX2_digest_59 (lv_at hl 3 rfl) ?_
      refine zrdN hx hb hK hP 2 0 rfl rfl (j := 400 * t + q) (by omega) (by decide) dX2_digest_61 ?_
      refine lv_iadd hx hb dX2_digest_62 ?_
      refine lv_aload_n hx hb dX2_digest_63 rfl (lv_at hl 1 rfl) ?_
      refine va_get (D := (dC, dI)) (ci := 2) (v := .ref (g 3)) (C := RX2) (T := TX2) (N := 6) hx hb hts (by decide +kernel) hown hK hP 0 rfl rfl 2 (by decide) (hts (.fieldLink RX2 16 "RevisionTreeModel" "size" "[I") (by decide +kernel)) (fun _ h9 => h9) rfl dX2_digest_64 ?_
      refine lv_iload hx hb dX2_digest_67 (lv_at hl 3 rfl) ?_
      refine zrdN hx hb hK hP 3 0 rfl rfl (j := 400 * t + q) (by omega) (by decide) dX2_digest_69 ?_
      refine lv_iadd hx hb dX2_digest_70 ?_
      refine lv_istore_n (lv' := [(3, .int ((((((dgF (fun j => mK w (400 * t + j)) (fun j => mV w (400 * t + j)) (fun j => mS w (400 * t + j)) q) * (nI 31)) + ((mK w) (400 * t + q))) * (nI 31)) + ((mV w) (400 * t + q))) + ((mS w) (400 * t + q)))), (0, .ref (g 0)), (2, .int (nI t)), (4, .int (nI (400 * t + q)))]) hx hb dX2_digest_71 rfl hl (by decide) rfl (fun ls hl => ?_)
      refine lv_iinc (v := nI ((400 * t + q) + 1)) (lv' := [(4, .int (nI ((400 * t + q) + 1))), (3, .int ((((((dgF (fun j => mK w (400 * t + j)) (fun j => mV w (400 * t + j)) (fun j => mS w (400 * t + j)) q) * (nI 31)) + ((mK w) (400 * t + q))) * (nI 31)) + ((mV w) (400 * t + q))) + ((mS w) (400 * t + q)))), (0, .ref (g 0)), (2, .int (nI t))]) hx hb dX2_digest_72 hl (k := 3) rfl (zinc _) (by decide) rfl (fun ls hl => ?_)
      refine lv_goto (tgt := 21) hx hb dX2_digest_75 (by decide) ?_
      exact ih (q + 1) _ _ _ ⟨by omega, hP, hS, lv_sub hl [2, 3, 1, 0] rfl⟩ (by show mC w t - (q + 1) < mC w t - q; omega)
  · rw [show mTb (view w) r = aSt (view w) r from if_neg h0]
    refine lv_istore_n (lv' := [(2, .int (aSt (view w) r)), (0, .ref (g 0)), (1, .int r)]) hx hb dX2_digest_5 rfl hl (by decide) rfl (fun ls hl => ?_)
    refine lv_iload_n hx hb dX2_digest_6 rfl (lv_at hl 0 rfl) ?_
    refine lv_if_ge (tgt := 12) hx hb dX2_digest_7 (by decide) (fun h_7 => absurd h_7 (by rcases aSt_c h0 with q | q <;> rw [q] <;> decide)) (fun h_7 => ?_)
    refine lv_iload_n hx hb dX2_digest_10 rfl (lv_at hl 0 rfl) ?_
    exact W.iret (v := aSt (view w) r) hx hb hr (fun t9 ht9 hW9 => ⟨⟨_, (), rfl, (if_neg h0).symm, trivial⟩, hS.F ht9⟩) hS.2.2 dX2_digest_11
end
section
set_option maxHeartbeats 4000000 in
set_option maxRecDepth 100000 in
/-- put -/
theorem c_Model_put (l : Launch) (dC : Nat → ClassId) (dI : Nat → Nat → Nat) (cI cT : ClassId) (g : Nat → Nat) (w : MS) (k v z : Int32) (sz : Nat) (L : Nat) (hok : okR L (view w)) (hL : L < 500000) : Met l yX2_put wsX2_put ({ frames := 1, cells := 0, slots := 0, locals := 23 }) (va_Pc [.ref (g 0), .int k, .int v, .int z] (zPW (dC, dI) vwCl cI cT (wM g cI w) sz)) (va_Qi (fun (r9 : Int32) (u9 : MS) => r9 = (aPut (view w) k v z).1 ∧ eqR (view u9) (aPut (view w) k v z).2) (fun u t => va_P (dC, dI) vwCl (wM g cI u) t.heap) (va_A (wM g cI w) sz)) 0 0 (va_A (wM g cI w) sz) := by
  refine Met.ofW (cc := cX2_put) (maxL := 7) (ret := (some .int)) (by decide) rfl ?_
  intro p e s m args below meth c s₁ B hml hv
  obtain ⟨rfl, hsz, hP, hK, hD0⟩ := hv
  have hx := B.exec
  have hb := B.bytes
  have hr := B.returns
  have hts := atoms_spec (ws := wsX2_put) B.pre
  have hown : s.vm.findClass RX2 = some m.cls := findClass_of_methodNamed B.named
  have hlocks := B.notSynchronized
  subst hsz
  have hD := hD0.self (sz := s.heap.size)
  generalize hAe : va_A (wM g cI w) s.heap.size = A at hD ⊢
  have hA : ∀ q : Nat, s.heap.size ≤ q → A q := fun q h => by rw [← hAe]; exact Or.inr h
  have hS : va_S A s.heap s.heap [] := va_S.rf
  have hl := lv_entry ([.ref (g 0), .int k, .int v, .int z]) (n := 7) (Nat.le_of_ble_eq_true rfl)
  rw [lg_entry_eq]
  generalize (lg_sl ([.ref (g 0), .int k, .int v, .int z]) ++ List.replicate (7 - (lg_sl ([.ref (g 0), .int k, .int v, .int z])).length) Slot.unset).toArray = ls at hl ⊢
  have hl : lv_has ls 7 [(0, .ref (g 0)), (1, .int k), (2, .int v), (3, .int z)] := hl
  have hle : ∀ t, t < 4 → mC w t ≤ 400 := fun t ht => by have h9 := (hok.1 t ht).1; rw [view_t w ht] at h9; exact h9
  have hc3 : mC w 3 ≤ 400 := hle 3 (by decide)
  have hlat : mL w ≤ L := hok.2.2
  refine lv_iload_n hx hb dX2_put_0 rfl (lv_at hl 3 rfl) ?_
  refine lv_if_lt (tgt := 11) hx hb dX2_put_1 (by decide) (fun h_1 => ?_) (fun h_1 => ?_)
  · refine lv_iconst (v := (-1)) hx hb dX2_put_11 (by decide) ?_
    exact W.iret (v := (-1)) hx hb hr (fun t9 ht9 hW9 => ⟨⟨_, w, rfl, by unfold aPut; rw [if_pos (show z < 0 ∨ 300 < z from Or.inl h_1)]; exact ⟨rfl, eqR_rf⟩, by show va_P _ _ _ t9.heap; rw [ht9]; exact hP⟩, hS.F ht9⟩) hS.2.2 dX2_put_12
  · refine lv_iload_n hx hb dX2_put_4 rfl (lv_at hl 3 rfl) ?_
    refine lv_sipush (v := nI 300) hx hb dX2_put_5 (by decide) ?_
    refine lv_icmp_le (tgt := 13) hx hb dX2_put_8 (by decide) (fun h_8 => ?_) (fun h_8 => ?_)
    · refine lv_aload_n hx hb dX2_put_13 rfl (lv_at hl 0 rfl) ?_
      refine lv_iconst (v := nI 3) hx hb dX2_put_14 (by decide) ?_
      refine lv_iload_n hx hb dX2_put_15 rfl (lv_at hl 1 rfl) ?_
      refine zroi (va_runV (As := [.int (nI 3), .int k]) (rest := []) ⟨hx, hb, hml, hown, hts⟩ (c_Model_place l dC dI cI cT g w 3 k s.heap.size (by decide) hle) (cwV 2 hts gX2_put_X2_place rfl rfl rfl (by decide +kernel) ⟨Nat.le_of_ble_eq_true rfl, Nat.le_of_ble_eq_true rfl⟩) (zpreV hK hP hD rfl 0 rfl) rfl rfl hl.1 rfl (lv_room (Nat.le_of_ble_eq_true rfl)) dX2_put_16 ⟨Nat.le_of_ble_eq_true rfl, Nat.le_of_ble_eq_true rfl⟩) hP hS hA (fun H locs hP hS => ?_)
      obtain ⟨q, eq⟩ : ∃ q, q = tPl (vT w 3) k := ⟨_, rfl⟩
      rw [← eq]
      have hq : q ≤ mC w 3 := by rw [eq]; exact pl_le _ _ _
      refine lv_istore (lv' := [(4, .int (nI (400 * 3 + q))), (0, .ref (g 0)), (1, .int k), (2, .int v), (3, .int z)]) hx hb dX2_put_19 hl (by decide) rfl (fun ls hl => ?_)
      refine lv_aload_n hx hb dX2_put_21 rfl (lv_at hl 1 rfl) ?_
      refine lv_iconst (v := nI 3) hx hb dX2_put_22 (by decide) ?_
      refine lv_iload hx hb dX2_put_23 (lv_at hl 0 rfl) ?_
      refine lv_iload_n hx hb dX2_put_25 rfl (lv_at hl 2 rfl) ?_
      refine zroi (va_runV (As := [.int (nI 3), .int (nI (400 * 3 + q)), .int k]) (rest := []) ⟨hx, hb, hml, hown, hts⟩ (c_Model_is l dC dI cI cT g w 3 q k H.size (by decide) hle (by omega)) (cwV 3 hts gX2_put_X2_is rfl rfl rfl (by decide +kernel) ⟨Nat.le_of_ble_eq_true rfl, Nat.le_of_ble_eq_true rfl⟩) (zpreV hK hP hD rfl 0 rfl) rfl rfl hl.1 rfl (lv_room (Nat.le_of_ble_eq_true rfl)) dX2_put_26 ⟨Nat.le_of_ble_eq_true rfl, Nat.le_of_ble_eq_true rfl⟩) hP hS hA (fun H locs hP hS => ?_)
      refine lv_istore (lv' := [(5, .int (bz (q < mC w 3 ∧ mK w (400 * 3 + q) = k))), (4, .int (nI (400 * 3 + q))), (0, .ref (g 0)), (1, .int k), (2, .int v), (3, .int z)]) hx hb dX2_put_29 hl (by decide) rfl (fun ls hl => ?_)
      refine lv_iload hx hb dX2_put_31 (lv_at hl 0 rfl) ?_
      refine zifne (tgt := 51) hx hb dX2_put_33 (by decide) (fun h_33 => ?_) (fun h_33 => ?_)
      · refine lv_iload hx hb dX2_put_51 (lv_at hl 0 rfl) ?_
        refine zifne (tgt := 139) hx hb dX2_put_53 (by decide) (fun h_53 => ?_) (fun h_53 => absurd h_33 h_53)
        have hq4 : q < 400 := by have h9 := h_33.1; omega
        refine lv_aload_n hx hb dX2_put_139 rfl (lv_at hl 2 rfl) ?_
        refine va_get (D := (dC, dI)) (ci := 2) (v := .ref (g 1)) (C := RX2) (T := TX2) (N := 6) hx hb hts (by decide +kernel) hown hK hP 0 rfl rfl 0 (by decide) (hts (.fieldLink RX2 9 "RevisionTreeModel" "key" "[I") (by decide +kernel)) (fun _ h9 => h9) rfl dX2_put_140 ?_
        refine lv_iload hx hb dX2_put_143 (lv_at hl 1 rfl) ?_
        refine lv_iload_n hx hb dX2_put_145 rfl (lv_at hl 3 rfl) ?_
        refine zwrN hx hb hK hP hD hS 1 0 rfl rfl (j := 400 * 3 + q) (by omega) (by decide) dX2_put_146 (fun H locs hP hD hS => ?_)
        have hP : va_P (dC, dI) vwCl (wM g cI (upd (mK w) (400 * 3 + q) k, mV w, mS w, mC w, mR w, mL w)) H := hP
        have hD : va_D A (wM g cI (upd (mK w) (400 * 3 + q) k, mV w, mS w, mC w, mR w, mL w)) := hD
        refine lv_aload_n hx hb dX2_put_147 rfl (lv_at hl 2 rfl) ?_
        refine va_get (D := (dC, dI)) (ci := 2) (v := .ref (g 2)) (C := RX2) (T := TX2) (N := 6) hx hb hts (by decide +kernel) hown hK hP 0 rfl rfl 1 (by decide) (hts (.fieldLink RX2 13 "RevisionTreeModel" "value" "[I") (by decide +kernel)) (fun _ h9 => h9) rfl dX2_put_148 ?_
        refine lv_iload hx hb dX2_put_151 (lv_at hl 1 rfl) ?_
        refine lv_iload_n hx hb dX2_put_153 rfl (lv_at hl 4 rfl) ?_
        refine zwrN hx hb hK hP hD hS 2 0 rfl rfl (j := 400 * 3 + q) (by omega) (by decide) dX2_put_154 (fun H locs hP hD hS => ?_)
        have hP : va_P (dC, dI) vwCl (wM g cI (upd (mK w) (400 * 3 + q) k, upd (mV w) (400 * 3 + q) v, mS w, mC w, mR w, mL w)) H := hP
        have hD : va_D A (wM g cI (upd (mK w) (400 * 3 + q) k, upd (mV w) (400 * 3 + q) v, mS w, mC w, mR w, mL w)) := hD
        refine lv_aload_n hx hb dX2_put_155 rfl (lv_at hl 2 rfl) ?_
        refine va_get (D := (dC, dI)) (ci := 2) (v := .ref (g 3)) (C := RX2) (T := TX2) (N := 6) hx hb hts (by decide +kernel) hown hK hP 0 rfl rfl 2 (by decide) (hts (.fieldLink RX2 16 "RevisionTreeModel" "size" "[I") (by decide +kernel)) (fun _ h9 => h9) rfl dX2_put_156 ?_
        refine lv_iload hx hb dX2_put_159 (lv_at hl 1 rfl) ?_
        refine lv_iload_n hx hb dX2_put_161 rfl (lv_at hl 5 rfl) ?_
        refine zwrN hx hb hK hP hD hS 3 0 rfl rfl (j := 400 * 3 + q) (by omega) (by decide) dX2_put_162 (fun H locs hP hD hS => ?_)
        have hP : va_P (dC, dI) vwCl (wM g cI (upd (mK w) (400 * 3 + q) k, upd (mV w) (400 * 3 + q) v, upd (mS w) (400 * 3 + q) z, mC w, mR w, mL w)) H := hP
        have hD : va_D A (wM g cI (upd (mK w) (400 * 3 + q) k, upd (mV w) (400 * 3 + q) v, upd (mS w) (400 * 3 + q) z, mC w, mR w, mL w)) := hD
        refine lv_iload hx hb dX2_put_163 (lv_at hl 0 rfl) ?_
        refine zifeq (tgt := 172) hx hb dX2_put_165 (by decide) (fun h_165 => absurd h_33 h_165) (fun h_165 => ?_)
        refine lv_iconst (v := nI 0) hx hb dX2_put_168 (by decide) ?_
        refine lv_goto (tgt := 173) hx hb dX2_put_169 (by decide) ?_
        exact W.iret (v := nI 0) hx hb hr (fun t9 ht9 hW9 => ⟨⟨_, (upd (mK w) (400 * 3 + q) k, upd (mV w) (400 * 3 + q) v, upd (mS w) (400 * 3 + q) z, mC w, mR w, mL w), rfl, by subst eq; unfold aPut; rw [if_neg (fun q => q.elim h_1 (i_nl h_8))]; exact ⟨(put_viewH hle h_33).1.symm, (put_viewH hle h_33).2⟩, by show va_P _ _ _ t9.heap; rw [ht9]; exact hP⟩, hS.F ht9⟩) hS.2.2 dX2_put_173
      · refine lv_aload_n hx hb dX2_put_36 rfl (lv_at hl 2 rfl) ?_
        refine va_get (D := (dC, dI)) (ci := 2) (v := .ref (g 4)) (C := RX2) (T := TX2) (N := 6) hx hb hts (by decide +kernel) hown hK hP 0 rfl rfl 3 (by decide) (hts (.fieldLink RX2 19 "RevisionTreeModel" "count" "[I") (by decide +kernel)) (fun _ h9 => h9) rfl dX2_put_37 ?_
        refine lv_iconst (v := nI 3) hx hb dX2_put_40 (by decide) ?_
        refine zrdN hx hb hK hP 4 0 rfl rfl (j := 3) (by omega) (by decide) dX2_put_41 ?_
        refine lv_sipush (v := nI 400) hx hb dX2_put_42 (by decide) ?_
        refine zne (tgt := 51) hx hb dX2_put_45 (by decide) (by omega) (by omega) (fun h_45 => ?_) (fun h_45 => ?_)
        · refine lv_iload hx hb dX2_put_51 (lv_at hl 0 rfl) ?_
          refine zifne (tgt := 139) hx hb dX2_put_53 (by decide) (fun h_53 => absurd h_53 h_33) (fun h_53 => ?_)
          refine lv_sipush (v := nI 1200) hx hb dX2_put_56 (by decide) ?_
          refine lv_aload_n hx hb dX2_put_59 rfl (lv_at hl 2 rfl) ?_
          refine va_get (D := (dC, dI)) (ci := 2) (v := .ref (g 4)) (C := RX2) (T := TX2) (N := 6) hx hb hts (by decide +kernel) hown hK hP 0 rfl rfl 3 (by decide) (hts (.fieldLink RX2 19 "RevisionTreeModel" "count" "[I") (by decide +kernel)) (fun _ h9 => h9) rfl dX2_put_60 ?_
          refine lv_iconst (v := nI 3) hx hb dX2_put_63 (by decide) ?_
          refine zrdN hx hb hK hP 4 0 rfl rfl (j := 3) (by omega) (by decide) dX2_put_64 ?_
          refine lv_iadd hx hb dX2_put_65 ?_
          refine zt (y := nI (1200 + (mC w 3))) (nI_add _ _) ?_
          refine lv_istore (lv' := [(6, .int (nI (1200 + (mC w 3)))), (5, .int (bz (q < mC w 3 ∧ mK w (400 * 3 + q) = k))), (4, .int (nI (400 * 3 + q))), (0, .ref (g 0)), (1, .int k), (2, .int v), (3, .int z)]) hx hb dX2_put_66 hl (by decide) rfl (fun ls hl => ?_)
          refine zloop (σ := Nat × (Nat → Int32) × (Nat → Int32) × (Nat → Int32)) (fun x H locs ls => match x with | (c, K', V', S') => (q ≤ c ∧ c ≤ mC w 3 ∧ shR (mK w) K' c (mC w 3) ∧ shR (mV w) V' c (mC w 3) ∧ shR (mS w) S' c (mC w 3)) ∧ va_P (dC, dI) vwCl (wM g cI (K', V', S', mC w, mR w, mL w)) H ∧ va_D A (wM g cI (K', V', S', mC w, mR w, mL w)) ∧ va_S A s.heap H locs ∧ lv_has ls 7 [(0, .ref (g 0)), (1, .int k), (2, .int v), (3, .int z), (4, .int (nI (400 * 3 + q))), (5, .int (bz (q < mC w 3 ∧ mK w (400 * 3 + q) = k))), (6, .int (nI (1200 + c)))]) (fun x => x.1) ?_ (mC w 3, mK w, mV w, mS w) ⟨⟨hq, Nat.le_refl _, shR_0, shR_0, shR_0⟩, hP, hD, hS, lv_sub hl [3, 4, 5, 6, 2, 1, 0] rfl⟩
          rintro ⟨c, K', V', S'⟩ H locs ls ⟨⟨h1, h2, hk, hv, hs⟩, hP, hD, hS, hl⟩ ih
          refine lv_iload hx hb dX2_put_68 (lv_at hl 6 rfl) ?_
          refine lv_iload hx hb dX2_put_70 (lv_at hl 4 rfl) ?_
          refine zle (tgt := 129) hx hb dX2_put_72 (by decide) (by omega) (by omega) (fun h_72 => ?_) (fun h_72 => ?_)
          · obtain rfl : q = c := by omega
            refine lv_aload_n hx hb dX2_put_129 rfl (lv_at hl 0 rfl) ?_
            refine va_get (D := (dC, dI)) (ci := 2) (v := .ref (g 4)) (C := RX2) (T := TX2) (N := 6) hx hb hts (by decide +kernel) hown hK hP 0 rfl rfl 3 (by decide) (hts (.fieldLink RX2 19 "RevisionTreeModel" "count" "[I") (by decide +kernel)) (fun _ h9 => h9) rfl dX2_put_130 ?_
            refine lv_iconst (v := nI 3) hx hb dX2_put_133 (by decide) ?_
            refine lv_dup2_11 hx hb dX2_put_134 rfl rfl ?_
            refine zrdN hx hb hK hP 4 0 rfl rfl (j := 3) (by omega) (by decide) dX2_put_135 ?_
            refine lv_iconst (v := nI 1) hx hb dX2_put_136 (by decide) ?_
            refine lv_iadd hx hb dX2_put_137 ?_
            refine zt (y := nI ((mC w 3) + 1)) (nI_add _ _) ?_
            refine zwrN hx hb hK hP hD hS 4 0 rfl rfl (j := 3) (by omega) (by decide) dX2_put_138 (fun H locs hP hD hS => ?_)
            rw [rd_up (f := mC w) (j := 3) (x := (mC w 3) + 1)] at hP hD
            have hP : va_P (dC, dI) vwCl (wM g cI (K', V', S', (va_up (mC w) 3 ((mC w 3) + 1)), mR w, mL w)) H := hP
            have hD : va_D A (wM g cI (K', V', S', (va_up (mC w) 3 ((mC w 3) + 1)), mR w, mL w)) := hD
            have hq4 : q < 400 := by omega
            refine lv_aload_n hx hb dX2_put_139 rfl (lv_at hl 0 rfl) ?_
            refine va_get (D := (dC, dI)) (ci := 2) (v := .ref (g 1)) (C := RX2) (T := TX2) (N := 6) hx hb hts (by decide +kernel) hown hK hP 0 rfl rfl 0 (by decide) (hts (.fieldLink RX2 9 "RevisionTreeModel" "key" "[I") (by decide +kernel)) (fun _ h9 => h9) rfl dX2_put_140 ?_
            refine lv_iload hx hb dX2_put_143 (lv_at hl 4 rfl) ?_
            refine lv_iload_n hx hb dX2_put_145 rfl (lv_at hl 1 rfl) ?_
            refine zwrN hx hb hK hP hD hS 1 0 rfl rfl (j := 400 * 3 + q) (by omega) (by decide) dX2_put_146 (fun H locs hP hD hS => ?_)
            have hP : va_P (dC, dI) vwCl (wM g cI (upd K' (400 * 3 + q) k, V', S', (va_up (mC w) 3 ((mC w 3) + 1)), mR w, mL w)) H := hP
            have hD : va_D A (wM g cI (upd K' (400 * 3 + q) k, V', S', (va_up (mC w) 3 ((mC w 3) + 1)), mR w, mL w)) := hD
            refine lv_aload_n hx hb dX2_put_147 rfl (lv_at hl 0 rfl) ?_
            refine va_get (D := (dC, dI)) (ci := 2) (v := .ref (g 2)) (C := RX2) (T := TX2) (N := 6) hx hb hts (by decide +kernel) hown hK hP 0 rfl rfl 1 (by decide) (hts (.fieldLink RX2 13 "RevisionTreeModel" "value" "[I") (by decide +kernel)) (fun _ h9 => h9) rfl dX2_put_148 ?_
            refine lv_iload hx hb dX2_put_151 (lv_at hl 4 rfl) ?_
            refine lv_iload_n hx hb dX2_put_153 rfl (lv_at hl 2 rfl) ?_
            refine zwrN hx hb hK hP hD hS 2 0 rfl rfl (j := 400 * 3 + q) (by omega) (by decide) dX2_put_154 (fun H locs hP hD hS => ?_)
            have hP : va_P (dC, dI) vwCl (wM g cI (upd K' (400 * 3 + q) k, upd V' (400 * 3 + q) v, S', (va_up (mC w) 3 ((mC w 3) + 1)), mR w, mL w)) H := hP
            have hD : va_D A (wM g cI (upd K' (400 * 3 + q) k, upd V' (400 * 3 + q) v, S', (va_up (mC w) 3 ((mC w 3) + 1)), mR w, mL w)) := hD
            refine lv_aload_n hx hb dX2_put_155 rfl (lv_at hl 0 rfl) ?_
            refine va_get (D := (dC, dI)) (ci := 2) (v := .ref (g 3)) (C := RX2) (T := TX2) (N := 6) hx hb hts (by decide +kernel) hown hK hP 0 rfl rfl 2 (by decide) (hts (.fieldLink RX2 16 "RevisionTreeModel" "size" "[I") (by decide +kernel)) (fun _ h9 => h9) rfl dX2_put_156 ?_
            refine lv_iload hx hb dX2_put_159 (lv_at hl 4 rfl) ?_
            refine lv_iload_n hx hb dX2_put_161 rfl (lv_at hl 3 rfl) ?_
            refine zwrN hx hb hK hP hD hS 3 0 rfl rfl (j := 400 * 3 + q) (by omega) (by decide) dX2_put_162 (fun H locs hP hD hS => ?_)
            have hP : va_P (dC, dI) vwCl (wM g cI (upd K' (400 * 3 + q) k, upd V' (400 * 3 + q) v, upd S' (400 * 3 + q) z, (va_up (mC w) 3 ((mC w 3) + 1)), mR w, mL w)) H := hP
            have hD : va_D A (wM g cI (upd K' (400 * 3 + q) k, upd V' (400 * 3 + q) v, upd S' (400 * 3 + q) z, (va_up (mC w) 3 ((mC w 3) + 1)), mR w, mL w)) := hD
            refine lv_iload hx hb dX2_put_163 (lv_at hl 5 rfl) ?_
            refine zifeq (tgt := 172) hx hb dX2_put_165 (by decide) (fun h_165 => ?_) (fun h_165 => absurd h_165 h_33)
            refine lv_iconst (v := nI 1) hx hb dX2_put_172 (by decide) ?_
            exact W.iret (v := nI 1) hx hb hr (fun t9 ht9 hW9 => ⟨⟨_, (upd K' (400 * 3 + q) k, upd V' (400 * 3 + q) v, upd S' (400 * 3 + q) z, (va_up (mC w) 3 ((mC w 3) + 1)), mR w, mL w), rfl, by subst eq; unfold aPut; rw [if_neg (fun q => q.elim h_1 (i_nl h_8))]; exact ⟨(put_viewN hle h_33 (by omega) hk hv hs).1.symm, (put_viewN hle h_33 (by omega) hk hv hs).2⟩, by show va_P _ _ _ t9.heap; rw [ht9]; exact hP⟩, hS.F ht9⟩) hS.2.2 dX2_put_173
          · obtain ⟨c, rfl⟩ : ∃ d, c = d + 1 := ⟨c - 1, by omega⟩
            have hl : lv_has ls 7 [(0, .ref (g 0)), (1, .int k), (2, .int v), (3, .int z), (4, .int (nI (400 * 3 + q))), (5, .int (bz (q < mC w 3 ∧ mK w (400 * 3 + q) = k))), (6, .int (nI (1200 + c + 1)))] := hl
            refine lv_aload_n hx hb dX2_put_75 rfl (lv_at hl 0 rfl) ?_
            refine va_get (D := (dC, dI)) (ci := 2) (v := .ref (g 1)) (C := RX2) (T := TX2) (N := 6) hx hb hts (by decide +kernel) hown hK hP 0 rfl rfl 0 (by decide) (hts (.fieldLink RX2 9 "RevisionTreeModel" "key" "[I") (by decide +kernel)) (fun _ h9 => h9) rfl dX2_put_76 ?_
            refine lv_iload hx hb dX2_put_79 (lv_at hl 6 rfl) ?_
            refine lv_aload_n hx hb dX2_put_81 rfl (lv_at hl 0 rfl) ?_
            refine va_get (D := (dC, dI)) (ci := 2) (v := .ref (g 1)) (C := RX2) (T := TX2) (N := 6) hx hb hts (by decide +kernel) hown hK hP 0 rfl rfl 0 (by decide) (hts (.fieldLink RX2 9 "RevisionTreeModel" "key" "[I") (by decide +kernel)) (fun _ h9 => h9) rfl dX2_put_82 ?_
            refine lv_iload hx hb dX2_put_85 (lv_at hl 6 rfl) ?_
            refine lv_iconst (v := nI 1) hx hb dX2_put_87 (by decide) ?_
            refine lv_isub hx hb dX2_put_88 ?_
            refine zt (y := nI ((1200 + c + 1) - 1)) (pk_sub (by omega)) ?_
            refine zt (y := nI (1200 + c)) (congrArg nI (by omega)) ?_
            refine zrdN hx hb hK hP 1 0 rfl rfl (j := 1200 + c) (by omega) (by decide) dX2_put_89 ?_
            refine zwrN hx hb hK hP hD hS 1 0 rfl rfl (j := 1200 + c + 1) (by omega) (by decide) dX2_put_90 (fun H locs hP hD hS => ?_)
            have hP : va_P (dC, dI) vwCl (wM g cI (upd K' (1200 + c + 1) (K' (1200 + c)), V', S', mC w, mR w, mL w)) H := hP
            have hD : va_D A (wM g cI (upd K' (1200 + c + 1) (K' (1200 + c)), V', S', mC w, mR w, mL w)) := hD
            refine lv_aload_n hx hb dX2_put_91 rfl (lv_at hl 0 rfl) ?_
            refine va_get (D := (dC, dI)) (ci := 2) (v := .ref (g 2)) (C := RX2) (T := TX2) (N := 6) hx hb hts (by decide +kernel) hown hK hP 0 rfl rfl 1 (by decide) (hts (.fieldLink RX2 13 "RevisionTreeModel" "value" "[I") (by decide +kernel)) (fun _ h9 => h9) rfl dX2_put_92 ?_
            refine lv_iload hx hb dX2_put_95 (lv_at hl 6 rfl) ?_
            refine lv_aload_n hx hb dX2_put_97 rfl (lv_at hl 0 rfl) ?_
            refine va_get (D := (dC, dI)) (ci := 2) (v := .ref (g 2)) (C := RX2) (T := TX2) (N := 6) hx hb hts (by decide +kernel) hown hK hP 0 rfl rfl 1 (by decide) (hts (.fieldLink RX2 13 "RevisionTreeModel" "value" "[I") (by decide +kernel)) (fun _ h9 => h9) rfl dX2_put_98 ?_
            refine lv_iload hx hb dX2_put_101 (lv_at hl 6 rfl) ?_
            refine lv_iconst (v := nI 1) hx hb dX2_put_103 (by decide) ?_
            refine lv_isub hx hb dX2_put_104 ?_
            refine zt (y := nI ((1200 + c + 1) - 1)) (pk_sub (by omega)) ?_
            refine zt (y := nI (1200 + c)) (congrArg nI (by omega)) ?_
            refine zrdN hx hb hK hP 2 0 rfl rfl (j := 1200 + c) (by omega) (by decide) dX2_put_105 ?_
            refine zwrN hx hb hK hP hD hS 2 0 rfl rfl (j := 1200 + c + 1) (by omega) (by decide) dX2_put_106 (fun H locs hP hD hS => ?_)
            have hP : va_P (dC, dI) vwCl (wM g cI (upd K' (1200 + c + 1) (K' (1200 + c)), upd V' (1200 + c + 1) (V' (1200 + c)), S', mC w, mR w, mL w)) H := hP
            have hD : va_D A (wM g cI (upd K' (1200 + c + 1) (K' (1200 + c)), upd V' (1200 + c + 1) (V' (1200 + c)), S', mC w, mR w, mL w)) := hD
            refine lv_aload_n hx hb dX2_put_107 rfl (lv_at hl 0 rfl) ?_
            refine va_get (D := (dC, dI)) (ci := 2) (v := .ref (g 3)) (C := RX2) (T := TX2) (N := 6) hx hb hts (by decide +kernel) hown hK hP 0 rfl rfl 2 (by decide) (hts (.fieldLink RX2 16 "RevisionTreeModel" "size" "[I") (by decide +kernel)) (fun _ h9 => h9) rfl dX2_put_108 ?_
            refine lv_iload hx hb dX2_put_111 (lv_at hl 6 rfl) ?_
            refine lv_aload_n hx hb dX2_put_113 rfl (lv_at hl 0 rfl) ?_
            refine va_get (D := (dC, dI)) (ci := 2) (v := .ref (g 3)) (C := RX2) (T := TX2) (N := 6) hx hb hts (by decide +kernel) hown hK hP 0 rfl rfl 2 (by decide) (hts (.fieldLink RX2 16 "RevisionTreeModel" "size" "[I") (by decide +kernel)) (fun _ h9 => h9) rfl dX2_put_114 ?_
            refine lv_iload hx hb dX2_put_117 (lv_at hl 6 rfl) ?_
            refine lv_iconst (v := nI 1) hx hb dX2_put_119 (by decide) ?_
            refine lv_isub hx hb dX2_put_120 ?_
            refine zt (y := nI ((1200 + c + 1) - 1)) (pk_sub (by omega)) ?_
            refine zt (y := nI (1200 + c)) (congrArg nI (by omega)) ?_
            refine zrdN hx hb hK hP 3 0 rfl rfl (j := 1200 + c) (by omega) (by decide) dX2_put_121 ?_
            refine zwrN hx hb hK hP hD hS 3 0 rfl rfl (j := 1200 + c + 1) (by omega) (by decide) dX2_put_122 (fun H locs hP hD hS => ?_)
            have hP : va_P (dC, dI) vwCl (wM g cI (upd K' (1200 + c + 1) (K' (1200 + c)), upd V' (1200 + c + 1) (V' (1200 + c)), upd S' (1200 + c + 1) (S' (1200 + c)), mC w, mR w, mL w)) H := hP
            have hD : va_D A (wM g cI (upd K' (1200 + c + 1) (K' (1200 + c)), upd V' (1200 + c + 1) (V' (1200 + c)), upd S' (1200 + c + 1) (S' (1200 + c)), mC w, mR w, mL w)) := hD
            refine lv_iinc (v := nI (1200 + c)) (lv' := [(6, .int (nI (1200 + c))), (0, .ref (g 0)), (1, .int k), (2, .int v), (3, .int z), (4, .int (nI (400 * 3 + q))), (5, .int (bz (q < mC w 3 ∧ mK w (400 * 3 + q) = k)))]) hx hb dX2_put_123 hl (k := 6) rfl (zdec _) (by decide) rfl (fun ls hl => ?_)
            refine lv_goto (tgt := 68) hx hb dX2_put_126 (by decide) ?_
            exact ih (c, upd K' (1200 + c + 1) (K' (1200 + c)), upd V' (1200 + c + 1) (V' (1200 + c)), upd S' (1200 + c + 1) (S' (1200 + c))) _ _ _ ⟨⟨by omega, by omega, shR_s hk, shR_s hv, shR_s hs⟩, hP, hD, hS, lv_sub hl [1, 2, 3, 4, 5, 6, 0] rfl⟩ (Nat.lt_succ_self c)
        · refine lv_bipush (v := (-3)) hx hb dX2_put_48 (by decide) ?_
          exact W.iret (v := (-3)) hx hb hr (fun t9 ht9 hW9 => ⟨⟨_, w, rfl, by subst eq; unfold aPut; rw [if_neg (fun q => q.elim h_1 (i_nl h_8)), tEnter_f (T := tsel (view w) 3) v z h_33 (show 400 ≤ mC w 3 by omega)]; exact ⟨rfl, (eqR_rf : eqR (view w) (tset (view w) 3 (tsel (view w) 3)))⟩, by show va_P _ _ _ t9.heap; rw [ht9]; exact hP⟩, hS.F ht9⟩) hS.2.2 dX2_put_50
    · refine lv_iconst (v := (-1)) hx hb dX2_put_11 (by decide) ?_
      exact W.iret (v := (-1)) hx hb hr (fun t9 ht9 hW9 => ⟨⟨_, w, rfl, by unfold aPut; rw [if_pos (show z < 0 ∨ 300 < z from Or.inr (i_lt h_8))]; exact ⟨rfl, eqR_rf⟩, by show va_P _ _ _ t9.heap; rw [ht9]; exact hP⟩, hS.F ht9⟩) hS.2.2 dX2_put_12
end
section
set_option maxHeartbeats 4000000 in
set_option maxRecDepth 100000 in
/-- some -/
theorem c_Model_some (l : Launch) (dC : Nat → ClassId) (dI : Nat → Nat → Nat) (cI cT : ClassId) (g : Nat → Nat) (w : MS) (fr stp many v : Int32) (sz : Nat) (L : Nat) (hok : okR L (view w)) (hL : L < 500000) : Met l yX2_some wsX2_some ({ frames := 2, cells := 0, slots := 0, locals := 49 }) (va_Pc [.ref (g 0), .int fr, .int stp, .int many, .int v] (zPW (dC, dI) vwCl cI cT (wM g cI w) sz)) (va_Qi (fun (r9 : Int32) (u9 : MS) => r9 = (aSome (view w) fr stp many v).1 ∧ eqR (view u9) (aSome (view w) fr stp many v).2) (fun u t => va_P (dC, dI) vwCl (wM g cI u) t.heap) (va_A (wM g cI w) sz)) 0 0 (va_A (wM g cI w) sz) := by
  refine Met.ofW (cc := cX2_some) (maxL := 7) (ret := (some .int)) (by decide) rfl ?_
  intro p e s m args below meth c s₁ B hml hv
  obtain ⟨rfl, hsz, hP, hK, hD0⟩ := hv
  have hx := B.exec
  have hb := B.bytes
  have hr := B.returns
  have hts := atoms_spec (ws := wsX2_some) B.pre
  have hown : s.vm.findClass RX2 = some m.cls := findClass_of_methodNamed B.named
  have hlocks := B.notSynchronized
  subst hsz
  have hD := hD0.self (sz := s.heap.size)
  generalize hAe : va_A (wM g cI w) s.heap.size = A at hD ⊢
  have hA : ∀ q : Nat, s.heap.size ≤ q → A q := fun q h => by rw [← hAe]; exact Or.inr h
  have hS : va_S A s.heap s.heap [] := va_S.rf
  have hl := lv_entry ([.ref (g 0), .int fr, .int stp, .int many, .int v]) (n := 7) (Nat.le_of_ble_eq_true rfl)
  rw [lg_entry_eq]
  generalize (lg_sl ([.ref (g 0), .int fr, .int stp, .int many, .int v]) ++ List.replicate (7 - (lg_sl ([.ref (g 0), .int fr, .int stp, .int many, .int v])).length) Slot.unset).toArray = ls at hl ⊢
  have hl : lv_has ls 7 [(0, .ref (g 0)), (1, .int fr), (2, .int stp), (3, .int many), (4, .int v)] := hl
  have hle : ∀ t, t < 4 → mC w t ≤ 400 := fun t ht => by have h9 := (hok.1 t ht).1; rw [view_t w ht] at h9; exact h9
  have hc3 : mC w 3 ≤ 400 := hle 3 (by decide)
  have hlat : mL w ≤ L := hok.2.2
  refine lv_iload_n hx hb dX2_some_0 rfl (lv_at hl 3 rfl) ?_
  refine lv_iconst (v := nI 1) hx hb dX2_some_1 (by decide) ?_
  refine lv_icmp_lt (tgt := 11) hx hb dX2_some_2 (by decide) (fun h_2 => ?_) (fun h_2 => ?_)
  · refine lv_iconst (v := (-1)) hx hb dX2_some_11 (by decide) ?_
    exact W.iret (v := (-1)) hx hb hr (fun t9 ht9 hW9 => ⟨⟨_, w, rfl, by unfold aSome; rw [if_pos (show many < 1 ∨ 60 < many from Or.inl h_2)]; exact ⟨rfl, eqR_rf⟩, by show va_P _ _ _ t9.heap; rw [ht9]; exact hP⟩, hS.F ht9⟩) hS.2.2 dX2_some_12
  · refine lv_iload_n hx hb dX2_some_5 rfl (lv_at hl 3 rfl) ?_
    refine lv_bipush (v := nI 60) hx hb dX2_some_6 (by decide) ?_
    refine lv_icmp_le (tgt := 13) hx hb dX2_some_8 (by decide) (fun h_8 => ?_) (fun h_8 => ?_)
    · obtain ⟨mm, hm1, hm2, rfl, em⟩ := many_in h_2 (i_nl h_8)
      refine lv_iconst (v := nI 0) hx hb dX2_some_13 (by decide) ?_
      refine lv_istore (lv' := [(5, .int (nI 0)), (0, .ref (g 0)), (1, .int fr), (2, .int stp), (3, .int (nI mm)), (4, .int v)]) hx hb dX2_some_14 hl (by decide) rfl (fun ls hl => ?_)
      refine lv_iconst (v := nI 0) hx hb dX2_some_16 (by decide) ?_
      refine lv_istore (lv' := [(6, .int (nI 0)), (5, .int (nI 0)), (0, .ref (g 0)), (1, .int fr), (2, .int stp), (3, .int (nI mm)), (4, .int v)]) hx hb dX2_some_17 hl (by decide) rfl (fun ls hl => ?_)
      refine zloop (σ := Nat × MS) (fun x H locs ls => match x with | (i, X) => (i ≤ mm ∧ eqR (view X) (tset (view w) 3 (someF (tsel (view w) 3) fr stp v i).2)) ∧ va_P (dC, dI) vwCl (wM g cI X) H ∧ va_D A (wM g cI X) ∧ va_S A s.heap H locs ∧ lv_has ls 7 [(0, .ref (g 0)), (1, .int fr), (2, .int stp), (3, .int (nI mm)), (4, .int v), (5, .int (nI (someF (tsel (view w) 3) fr stp v i).1)), (6, .int (nI i))]) (fun x => mm - x.1) ?_ (0, w) ⟨⟨Nat.zero_le _, (eqR_rf : eqR (view w) (tset (view w) 3 (tsel (view w) 3)))⟩, hP, hD, hS, lv_sub hl [2, 3, 4, 5, 6, 1, 0] rfl⟩
      rintro ⟨i, X⟩ H locs ls ⟨⟨hi, hq⟩, hP, hD, hS, hl⟩ ih
      refine lv_iload hx hb dX2_some_19 (lv_at hl 6 rfl) ?_
      refine lv_iload_n hx hb dX2_some_21 rfl (lv_at hl 3 rfl) ?_
      refine zge (tgt := 75) hx hb dX2_some_22 (by decide) (by omega) (by omega) (fun h_22 => ?_) (fun h_22 => ?_)
      · refine lv_iload hx hb dX2_some_75 (lv_at hl 5 rfl) ?_
        have ei : i = mm := by omega
        subst ei
        exact W.iret (v := nI ((someF (tsel (view w) 3) fr stp v i).1)) hx hb hr (fun t9 ht9 hW9 => ⟨⟨_, X, rfl, by unfold aSome; rw [if_neg (fun q => q.elim h_2 (i_nl h_8)), em]; exact ⟨rfl, hq⟩, by show va_P _ _ _ t9.heap; rw [ht9]; exact hP⟩, hS.F ht9⟩) hS.2.2 dX2_some_77
      · refine lv_aload_n hx hb dX2_some_25 rfl (lv_at hl 0 rfl) ?_
        refine lv_iload_n hx hb dX2_some_26 rfl (lv_at hl 1 rfl) ?_
        refine lv_iload hx hb dX2_some_27 (lv_at hl 6 rfl) ?_
        refine lv_iload_n hx hb dX2_some_29 rfl (lv_at hl 2 rfl) ?_
        refine lv_imul hx hb dX2_some_30 ?_
        refine lv_iadd hx hb dX2_some_31 ?_
        refine lv_iload hx hb dX2_some_32 (lv_at hl 4 rfl) ?_
        refine lv_iload hx hb dX2_some_34 (lv_at hl 6 rfl) ?_
        refine lv_iadd hx hb dX2_some_36 ?_
        refine lv_iload hx hb dX2_some_37 (lv_at hl 6 rfl) ?_
        refine lv_iconst (v := nI 2) hx hb dX2_some_39 (by decide) ?_
        refine lv_irem hx hb dX2_some_40 (by decide) ?_
        refine zt (y := nI (i % 2)) (pk_rem (by omega) (by omega) (by omega)) ?_
        refine lv_if_ne (tgt := 48) hx hb dX2_some_41 (by decide) (fun h_41 => ?_) (fun h_41 => ?_)
        · refine lv_iload hx hb dX2_some_48 (lv_at hl 4 rfl) ?_
          refine lv_bipush (v := nI 7) hx hb dX2_some_50 (by decide) ?_
          refine lv_iload hx hb dX2_some_52 (lv_at hl 6 rfl) ?_
          refine lv_imul hx hb dX2_some_54 ?_
          refine zt (y := nI (7 * i)) (pk_mul _ _) ?_
          refine lv_iadd hx hb dX2_some_55 ?_
          refine lv_bipush (v := nI 127) hx hb dX2_some_56 (by decide) ?_
          refine lv_iand hx hb dX2_some_58 ?_
          refine zt (y := zsz v i) (if_neg (fun q => h_41 (show nI (i % 2) = nI 0 by rw [q]))).symm ?_
          refine zwri (w1 := fun u : MS => wM g cI u) (va_runV (As := [.int (fr + ((nI i) * stp)), .int (v + (nI i)), .int (zsz v i)]) (rest := []) ⟨hx, hb, hml, hown, hts⟩ (c_Model_put l dC dI cI cT g X (fr + nI i * stp) (v + nI i) (zsz v i) H.size L (okR_eq (eqR_sy hq) (tset_ok (by decide) hok (someF_ok (hok.1 3 (by decide)) _ _ _ _))) hL) (cwV 3 hts gX2_some_X2_put rfl rfl rfl (by decide +kernel) ⟨Nat.le_of_ble_eq_true rfl, Nat.le_of_ble_eq_true rfl⟩) (zpreV hK (hP.sub [0, 1, 2, 3, 4, 5] rfl) (hD.sub [0, 1, 2, 3, 4, 5] (by decide) rfl) rfl 0 rfl) rfl rfl hl.1 rfl (lv_room (Nat.le_of_ble_eq_true rfl)) dX2_some_59 ⟨Nat.le_of_ble_eq_true rfl, Nat.le_of_ble_eq_true rfl⟩) hP hD hS hA [0, 1, 2, 3, 4, 5] rfl (fun _ => rfl) (fun _ => rfl) (fun r u H locs hw hP hD hS => ?_)
          have hP : va_P (dC, dI) vwCl (wM g cI u) H := hP
          have hD : va_D A (wM g cI u) := hD
          refine lv_iconst (v := nI 1) hx hb dX2_some_62 (by decide) ?_
          refine lv_icmp_ne (tgt := 69) hx hb dX2_some_63 (by decide) (fun h_63 => ?_) (fun h_63 => ?_)
          · refine lv_iinc (v := nI (i + 1)) (lv' := [(6, .int (nI (i + 1))), (0, .ref (g 0)), (1, .int fr), (2, .int stp), (3, .int (nI mm)), (4, .int v), (5, .int (nI ((someF (tsel (view w) 3) fr stp v i).1)))]) hx hb dX2_some_69 hl (k := 6) rfl (zinc _) (by decide) rfl (fun ls hl => ?_)
            refine lv_goto (tgt := 19) hx hb dX2_some_72 (by decide) ?_
            have ec := (some_st hq hw.1 hw.2).2.2 h_63
            exact ih (i + 1, u) _ _ _ ⟨⟨by omega, (some_st hq hw.1 hw.2).1⟩, hP, hD, hS, by rw [ec]; exact lv_sub hl [1, 2, 3, 4, 5, 6, 0] rfl⟩ (by show mm - (i + 1) < mm - i; omega)
          · refine lv_iinc (v := nI (((someF (tsel (view w) 3) fr stp v i).1) + 1)) (lv' := [(5, .int (nI (((someF (tsel (view w) 3) fr stp v i).1) + 1))), (0, .ref (g 0)), (1, .int fr), (2, .int stp), (3, .int (nI mm)), (4, .int v), (6, .int (nI i))]) hx hb dX2_some_66 hl (k := 5) rfl (zinc _) (by decide) rfl (fun ls hl => ?_)
            refine lv_iinc (v := nI (i + 1)) (lv' := [(6, .int (nI (i + 1))), (5, .int (nI (((someF (tsel (view w) 3) fr stp v i).1) + 1))), (0, .ref (g 0)), (1, .int fr), (2, .int stp), (3, .int (nI mm)), (4, .int v)]) hx hb dX2_some_69 hl (k := 6) rfl (zinc _) (by decide) rfl (fun ls hl => ?_)
            refine lv_goto (tgt := 19) hx hb dX2_some_72 (by decide) ?_
            have ec := (some_st hq hw.1 hw.2).2.1 h_63
            exact ih (i + 1, u) _ _ _ ⟨⟨by omega, (some_st hq hw.1 hw.2).1⟩, hP, hD, hS, by rw [ec]; exact lv_sub hl [2, 3, 4, 5, 6, 1, 0] rfl⟩ (by show mm - (i + 1) < mm - i; omega)
        · refine lv_iconst (v := nI 0) hx hb dX2_some_44 (by decide) ?_
          refine lv_goto (tgt := 59) hx hb dX2_some_45 (by decide) ?_
          refine zt (y := zsz v i) (show nI 0 = zsz v i from (if_pos ((nI_eq (by omega) (by omega)).mp (show nI (i % 2) = nI 0 from h_41))).symm) ?_
          refine zwri (w1 := fun u : MS => wM g cI u) (va_runV (As := [.int (fr + ((nI i) * stp)), .int (v + (nI i)), .int (zsz v i)]) (rest := []) ⟨hx, hb, hml, hown, hts⟩ (c_Model_put l dC dI cI cT g X (fr + nI i * stp) (v + nI i) (zsz v i) H.size L (okR_eq (eqR_sy hq) (tset_ok (by decide) hok (someF_ok (hok.1 3 (by decide)) _ _ _ _))) hL) (cwV 3 hts gX2_some_X2_put rfl rfl rfl (by decide +kernel) ⟨Nat.le_of_ble_eq_true rfl, Nat.le_of_ble_eq_true rfl⟩) (zpreV hK (hP.sub [0, 1, 2, 3, 4, 5] rfl) (hD.sub [0, 1, 2, 3, 4, 5] (by decide) rfl) rfl 0 rfl) rfl rfl hl.1 rfl (lv_room (Nat.le_of_ble_eq_true rfl)) dX2_some_59 ⟨Nat.le_of_ble_eq_true rfl, Nat.le_of_ble_eq_true rfl⟩) hP hD hS hA [0, 1, 2, 3, 4, 5] rfl (fun _ => rfl) (fun _ => rfl) (fun r u H locs hw hP hD hS => ?_)
          have hP : va_P (dC, dI) vwCl (wM g cI u) H := hP
          have hD : va_D A (wM g cI u) := hD
          refine lv_iconst (v := nI 1) hx hb dX2_some_62 (by decide) ?_
          refine lv_icmp_ne (tgt := 69) hx hb dX2_some_63 (by decide) (fun h_63 => ?_) (fun h_63 => ?_)
          · refine lv_iinc (v := nI (i + 1)) (lv' := [(6, .int (nI (i + 1))), (0, .ref (g 0)), (1, .int fr), (2, .int stp), (3, .int (nI mm)), (4, .int v), (5, .int (nI ((someF (tsel (view w) 3) fr stp v i).1)))]) hx hb dX2_some_69 hl (k := 6) rfl (zinc _) (by decide) rfl (fun ls hl => ?_)
            refine lv_goto (tgt := 19) hx hb dX2_some_72 (by decide) ?_
            have ec := (some_st hq hw.1 hw.2).2.2 h_63
            exact ih (i + 1, u) _ _ _ ⟨⟨by omega, (some_st hq hw.1 hw.2).1⟩, hP, hD, hS, by rw [ec]; exact lv_sub hl [1, 2, 3, 4, 5, 6, 0] rfl⟩ (by show mm - (i + 1) < mm - i; omega)
          · refine lv_iinc (v := nI (((someF (tsel (view w) 3) fr stp v i).1) + 1)) (lv' := [(5, .int (nI (((someF (tsel (view w) 3) fr stp v i).1) + 1))), (0, .ref (g 0)), (1, .int fr), (2, .int stp), (3, .int (nI mm)), (4, .int v), (6, .int (nI i))]) hx hb dX2_some_66 hl (k := 5) rfl (zinc _) (by decide) rfl (fun ls hl => ?_)
            refine lv_iinc (v := nI (i + 1)) (lv' := [(6, .int (nI (i + 1))), (5, .int (nI (((someF (tsel (view w) 3) fr stp v i).1) + 1))), (0, .ref (g 0)), (1, .int fr), (2, .int stp), (3, .int (nI mm)), (4, .int v)]) hx hb dX2_some_69 hl (k := 6) rfl (zinc _) (by decide) rfl (fun ls hl => ?_)
            refine lv_goto (tgt := 19) hx hb dX2_some_72 (by decide) ?_
            have ec := (some_st hq hw.1 hw.2).2.1 h_63
            exact ih (i + 1, u) _ _ _ ⟨⟨by omega, (some_st hq hw.1 hw.2).1⟩, hP, hD, hS, by rw [ec]; exact lv_sub hl [2, 3, 4, 5, 6, 1, 0] rfl⟩ (by show mm - (i + 1) < mm - i; omega)
    · refine lv_iconst (v := (-1)) hx hb dX2_some_11 (by decide) ?_
      exact W.iret (v := (-1)) hx hb hr (fun t9 ht9 hW9 => ⟨⟨_, w, rfl, by unfold aSome; rw [if_pos (show many < 1 ∨ 60 < many from Or.inr (i_lt h_8))]; exact ⟨rfl, eqR_rf⟩, by show va_P _ _ _ t9.heap; rw [ht9]; exact hP⟩, hS.F ht9⟩) hS.2.2 dX2_some_12
set_option maxHeartbeats 4000000 in
set_option maxRecDepth 100000 in
/-- remove -/
theorem c_Model_remove (l : Launch) (dC : Nat → ClassId) (dI : Nat → Nat → Nat) (cI cT : ClassId) (g : Nat → Nat) (w : MS) (k : Int32) (sz : Nat) (L : Nat) (hok : okR L (view w)) (hL : L < 500000) : Met l yX2_remove wsX2_remove ({ frames := 1, cells := 0, slots := 0, locals := 23 }) (va_Pc [.ref (g 0), .int k] (zPW (dC, dI) vwCl cI cT (wM g cI w) sz)) (va_Qi (fun (r9 : Int32) (u9 : MS) => r9 = (aRemove (view w) k).1 ∧ eqR (view u9) (aRemove (view w) k).2) (fun u t => va_P (dC, dI) vwCl (wM g cI u) t.heap) (va_A (wM g cI w) sz)) 0 0 (va_A (wM g cI w) sz) := by
  refine Met.ofW (cc := cX2_remove) (maxL := 4) (ret := (some .int)) (by decide) rfl ?_
  intro p e s m args below meth c s₁ B hml hv
  obtain ⟨rfl, hsz, hP, hK, hD0⟩ := hv
  have hx := B.exec
  have hb := B.bytes
  have hr := B.returns
  have hts := atoms_spec (ws := wsX2_remove) B.pre
  have hown : s.vm.findClass RX2 = some m.cls := findClass_of_methodNamed B.named
  have hlocks := B.notSynchronized
  subst hsz
  have hD := hD0.self (sz := s.heap.size)
  generalize hAe : va_A (wM g cI w) s.heap.size = A at hD ⊢
  have hA : ∀ q : Nat, s.heap.size ≤ q → A q := fun q h => by rw [← hAe]; exact Or.inr h
  have hS : va_S A s.heap s.heap [] := va_S.rf
  have hl := lv_entry ([.ref (g 0), .int k]) (n := 4) (Nat.le_of_ble_eq_true rfl)
  rw [lg_entry_eq]
  generalize (lg_sl ([.ref (g 0), .int k]) ++ List.replicate (4 - (lg_sl ([.ref (g 0), .int k])).length) Slot.unset).toArray = ls at hl ⊢
  have hl : lv_has ls 4 [(0, .ref (g 0)), (1, .int k)] := hl
  have hle : ∀ t, t < 4 → mC w t ≤ 400 := fun t ht => by have h9 := (hok.1 t ht).1; rw [view_t w ht] at h9; exact h9
  have hc3 : mC w 3 ≤ 400 := hle 3 (by decide)
  have hlat : mL w ≤ L := hok.2.2
  refine lv_aload_n hx hb dX2_remove_0 rfl (lv_at hl 0 rfl) ?_
  refine lv_iconst (v := nI 3) hx hb dX2_remove_1 (by decide) ?_
  refine lv_iload_n hx hb dX2_remove_2 rfl (lv_at hl 1 rfl) ?_
  refine zroi (va_runV (As := [.int (nI 3), .int k]) (rest := []) ⟨hx, hb, hml, hown, hts⟩ (c_Model_place l dC dI cI cT g w 3 k s.heap.size (by decide) hle) (cwV 2 hts gX2_remove_X2_place rfl rfl rfl (by decide +kernel) ⟨Nat.le_of_ble_eq_true rfl, Nat.le_of_ble_eq_true rfl⟩) (zpreV hK hP hD rfl 0 rfl) rfl rfl hl.1 rfl (lv_room (Nat.le_of_ble_eq_true rfl)) dX2_remove_3 ⟨Nat.le_of_ble_eq_true rfl, Nat.le_of_ble_eq_true rfl⟩) hP hS hA (fun H locs hP hS => ?_)
  obtain ⟨q, eq⟩ : ∃ q, q = tPl (vT w 3) k := ⟨_, rfl⟩
  rw [← eq]
  have hq : q ≤ mC w 3 := by rw [eq]; exact pl_le _ _ _
  refine lv_istore_n (lv' := [(2, .int (nI (400 * 3 + q))), (0, .ref (g 0)), (1, .int k)]) hx hb dX2_remove_6 rfl hl (by decide) rfl (fun ls hl => ?_)
  refine lv_aload_n hx hb dX2_remove_7 rfl (lv_at hl 1 rfl) ?_
  refine lv_iconst (v := nI 3) hx hb dX2_remove_8 (by decide) ?_
  refine lv_iload_n hx hb dX2_remove_9 rfl (lv_at hl 0 rfl) ?_
  refine lv_iload_n hx hb dX2_remove_10 rfl (lv_at hl 2 rfl) ?_
  refine zroi (va_runV (As := [.int (nI 3), .int (nI (400 * 3 + q)), .int k]) (rest := []) ⟨hx, hb, hml, hown, hts⟩ (c_Model_is l dC dI cI cT g w 3 q k H.size (by decide) hle (by omega)) (cwV 3 hts gX2_remove_X2_is rfl rfl rfl (by decide +kernel) ⟨Nat.le_of_ble_eq_true rfl, Nat.le_of_ble_eq_true rfl⟩) (zpreV hK hP hD rfl 0 rfl) rfl rfl hl.1 rfl (lv_room (Nat.le_of_ble_eq_true rfl)) dX2_remove_11 ⟨Nat.le_of_ble_eq_true rfl, Nat.le_of_ble_eq_true rfl⟩) hP hS hA (fun H locs hP hS => ?_)
  refine zifne (tgt := 20) hx hb dX2_remove_14 (by decide) (fun h_14 => ?_) (fun h_14 => ?_)
  · have hlt : q < mC w 3 := h_14.1
    refine lv_aload_n hx hb dX2_remove_20 rfl (lv_at hl 1 rfl) ?_
    refine va_get (D := (dC, dI)) (ci := 2) (v := .ref (g 4)) (C := RX2) (T := TX2) (N := 6) hx hb hts (by decide +kernel) hown hK hP 0 rfl rfl 3 (by decide) (hts (.fieldLink RX2 19 "RevisionTreeModel" "count" "[I") (by decide +kernel)) (fun _ h9 => h9) rfl dX2_remove_21 ?_
    refine lv_iconst (v := nI 3) hx hb dX2_remove_24 (by decide) ?_
    refine lv_dup2_11 hx hb dX2_remove_25 rfl rfl ?_
    refine zrdN hx hb hK hP 4 0 rfl rfl (j := 3) (by omega) (by decide) dX2_remove_26 ?_
    refine lv_iconst (v := nI 1) hx hb dX2_remove_27 (by decide) ?_
    refine lv_isub hx hb dX2_remove_28 ?_
    refine zt (y := nI ((mC w 3) - 1)) (pk_sub (by omega)) ?_
    refine zwrN hx hb hK hP hD hS 4 0 rfl rfl (j := 3) (by omega) (by decide) dX2_remove_29 (fun H locs hP hD hS => ?_)
    rw [rd_up (f := mC w) (j := 3) (x := (mC w 3) - 1)] at hP hD
    have hP : va_P (dC, dI) vwCl (wM g cI (mK w, mV w, mS w, (va_up (mC w) 3 ((mC w 3) - 1)), mR w, mL w)) H := hP
    have hD : va_D A (wM g cI (mK w, mV w, mS w, (va_up (mC w) 3 ((mC w 3) - 1)), mR w, mL w)) := hD
    refine lv_iload_n hx hb dX2_remove_30 rfl (lv_at hl 0 rfl) ?_
    refine lv_istore_n (lv' := [(3, .int (nI (400 * 3 + q))), (2, .int (nI (400 * 3 + q))), (0, .ref (g 0)), (1, .int k)]) hx hb dX2_remove_31 rfl hl (by decide) rfl (fun ls hl => ?_)
    refine zloop (σ := Nat × (Nat → Int32) × (Nat → Int32) × (Nat → Int32)) (fun x H locs ls => match x with | (c, K', V', S') => (q ≤ c ∧ c ≤ mC w 3 - 1 ∧ slR (mK w) K' q c ∧ slR (mV w) V' q c ∧ slR (mS w) S' q c) ∧ va_P (dC, dI) vwCl (wM g cI (K', V', S', (va_up (mC w) 3 (mC w 3 - 1)), mR w, mL w)) H ∧ va_D A (wM g cI (K', V', S', (va_up (mC w) 3 (mC w 3 - 1)), mR w, mL w)) ∧ va_S A s.heap H locs ∧ lv_has ls 4 [(0, .ref (g 0)), (1, .int k), (2, .int (nI (400 * 3 + q))), (3, .int (nI (1200 + c)))]) (fun x => mC w 3 - x.1) ?_ (q, mK w, mV w, mS w) ⟨⟨Nat.le_refl _, by omega, slR_0, slR_0, slR_0⟩, hP, hD, hS, lv_sub hl [2, 3, 1, 0] rfl⟩
    rintro ⟨c, K', V', S'⟩ H locs ls ⟨⟨h1, h2, hk, hv, hs⟩, hP, hD, hS, hl⟩ ih
    refine lv_iload_n hx hb dX2_remove_32 rfl (lv_at hl 3 rfl) ?_
    refine lv_sipush (v := nI 1200) hx hb dX2_remove_33 (by decide) ?_
    refine lv_aload_n hx hb dX2_remove_36 rfl (lv_at hl 0 rfl) ?_
    refine va_get (D := (dC, dI)) (ci := 2) (v := .ref (g 4)) (C := RX2) (T := TX2) (N := 6) hx hb hts (by decide +kernel) hown hK hP 0 rfl rfl 3 (by decide) (hts (.fieldLink RX2 19 "RevisionTreeModel" "count" "[I") (by decide +kernel)) (fun _ h9 => h9) rfl dX2_remove_37 ?_
    refine lv_iconst (v := nI 3) hx hb dX2_remove_40 (by decide) ?_
    refine zrdN hx hb hK hP 4 0 rfl rfl (j := 3) (by omega) (by decide) dX2_remove_41 ?_
    refine zt (y := nI (mC w 3 - 1)) (congrArg nI (va_up_self (mC w) 3 (mC w 3 - 1))) ?_
    refine lv_iadd hx hb dX2_remove_42 ?_
    refine zt (y := nI (1200 + (mC w 3 - 1))) (nI_add _ _) ?_
    refine zge (tgt := 94) hx hb dX2_remove_43 (by decide) (by omega) (by omega) (fun h_43 => ?_) (fun h_43 => ?_)
    · refine lv_aload_n hx hb dX2_remove_94 rfl (lv_at hl 0 rfl) ?_
      refine va_get (D := (dC, dI)) (ci := 2) (v := .ref (g 4)) (C := RX2) (T := TX2) (N := 6) hx hb hts (by decide +kernel) hown hK hP 0 rfl rfl 3 (by decide) (hts (.fieldLink RX2 19 "RevisionTreeModel" "count" "[I") (by decide +kernel)) (fun _ h9 => h9) rfl dX2_remove_95 ?_
      refine lv_iconst (v := nI 3) hx hb dX2_remove_98 (by decide) ?_
      refine zrdN hx hb hK hP 4 0 rfl rfl (j := 3) (by omega) (by decide) dX2_remove_99 ?_
      refine zt (y := nI (mC w 3 - 1)) (congrArg nI (va_up_self (mC w) 3 (mC w 3 - 1))) ?_
      obtain rfl : c = mC w 3 - 1 := by omega
      exact W.iret (v := nI (mC w 3 - 1)) hx hb hr (fun t9 ht9 hW9 => ⟨⟨_, (K', V', S', (va_up (mC w) 3 (mC w 3 - 1)), mR w, mL w), rfl, by subst eq; unfold aRemove; rw [if_pos (show tHas (tsel (view w) 3) k from h_14)]; exact ⟨rfl, rem_view hle h_14 hk hv hs⟩, by show va_P _ _ _ t9.heap; rw [ht9]; exact hP⟩, hS.F ht9⟩) hS.2.2 dX2_remove_100
    · refine lv_aload_n hx hb dX2_remove_46 rfl (lv_at hl 0 rfl) ?_
      refine va_get (D := (dC, dI)) (ci := 2) (v := .ref (g 1)) (C := RX2) (T := TX2) (N := 6) hx hb hts (by decide +kernel) hown hK hP 0 rfl rfl 0 (by decide) (hts (.fieldLink RX2 9 "RevisionTreeModel" "key" "[I") (by decide +kernel)) (fun _ h9 => h9) rfl dX2_remove_47 ?_
      refine lv_iload_n hx hb dX2_remove_50 rfl (lv_at hl 3 rfl) ?_
      refine lv_aload_n hx hb dX2_remove_51 rfl (lv_at hl 0 rfl) ?_
      refine va_get (D := (dC, dI)) (ci := 2) (v := .ref (g 1)) (C := RX2) (T := TX2) (N := 6) hx hb hts (by decide +kernel) hown hK hP 0 rfl rfl 0 (by decide) (hts (.fieldLink RX2 9 "RevisionTreeModel" "key" "[I") (by decide +kernel)) (fun _ h9 => h9) rfl dX2_remove_52 ?_
      refine lv_iload_n hx hb dX2_remove_55 rfl (lv_at hl 3 rfl) ?_
      refine lv_iconst (v := nI 1) hx hb dX2_remove_56 (by decide) ?_
      refine lv_iadd hx hb dX2_remove_57 ?_
      refine zt (y := nI ((1200 + c) + 1)) (nI_add _ _) ?_
      refine zrdN hx hb hK hP 1 0 rfl rfl (j := (1200 + c) + 1) (by omega) (by decide) dX2_remove_58 ?_
      refine zwrN hx hb hK hP hD hS 1 0 rfl rfl (j := 1200 + c) (by omega) (by decide) dX2_remove_59 (fun H locs hP hD hS => ?_)
      have hP : va_P (dC, dI) vwCl (wM g cI (upd K' (1200 + c) (K' ((1200 + c) + 1)), V', S', (va_up (mC w) 3 (mC w 3 - 1)), mR w, mL w)) H := hP
      have hD : va_D A (wM g cI (upd K' (1200 + c) (K' ((1200 + c) + 1)), V', S', (va_up (mC w) 3 (mC w 3 - 1)), mR w, mL w)) := hD
      refine lv_aload_n hx hb dX2_remove_60 rfl (lv_at hl 0 rfl) ?_
      refine va_get (D := (dC, dI)) (ci := 2) (v := .ref (g 2)) (C := RX2) (T := TX2) (N := 6) hx hb hts (by decide +kernel) hown hK hP 0 rfl rfl 1 (by decide) (hts (.fieldLink RX2 13 "RevisionTreeModel" "value" "[I") (by decide +kernel)) (fun _ h9 => h9) rfl dX2_remove_61 ?_
      refine lv_iload_n hx hb dX2_remove_64 rfl (lv_at hl 3 rfl) ?_
      refine lv_aload_n hx hb dX2_remove_65 rfl (lv_at hl 0 rfl) ?_
      refine va_get (D := (dC, dI)) (ci := 2) (v := .ref (g 2)) (C := RX2) (T := TX2) (N := 6) hx hb hts (by decide +kernel) hown hK hP 0 rfl rfl 1 (by decide) (hts (.fieldLink RX2 13 "RevisionTreeModel" "value" "[I") (by decide +kernel)) (fun _ h9 => h9) rfl dX2_remove_66 ?_
      refine lv_iload_n hx hb dX2_remove_69 rfl (lv_at hl 3 rfl) ?_
      refine lv_iconst (v := nI 1) hx hb dX2_remove_70 (by decide) ?_
      refine lv_iadd hx hb dX2_remove_71 ?_
      refine zt (y := nI ((1200 + c) + 1)) (nI_add _ _) ?_
      refine zrdN hx hb hK hP 2 0 rfl rfl (j := (1200 + c) + 1) (by omega) (by decide) dX2_remove_72 ?_
      refine zwrN hx hb hK hP hD hS 2 0 rfl rfl (j := 1200 + c) (by omega) (by decide) dX2_remove_73 (fun H locs hP hD hS => ?_)
      have hP : va_P (dC, dI) vwCl (wM g cI (upd K' (1200 + c) (K' ((1200 + c) + 1)), upd V' (1200 + c) (V' ((1200 + c) + 1)), S', (va_up (mC w) 3 (mC w 3 - 1)), mR w, mL w)) H := hP
      have hD : va_D A (wM g cI (upd K' (1200 + c) (K' ((1200 + c) + 1)), upd V' (1200 + c) (V' ((1200 + c) + 1)), S', (va_up (mC w) 3 (mC w 3 - 1)), mR w, mL w)) := hD
      refine lv_aload_n hx hb dX2_remove_74 rfl (lv_at hl 0 rfl) ?_
      refine va_get (D := (dC, dI)) (ci := 2) (v := .ref (g 3)) (C := RX2) (T := TX2) (N := 6) hx hb hts (by decide +kernel) hown hK hP 0 rfl rfl 2 (by decide) (hts (.fieldLink RX2 16 "RevisionTreeModel" "size" "[I") (by decide +kernel)) (fun _ h9 => h9) rfl dX2_remove_75 ?_
      refine lv_iload_n hx hb dX2_remove_78 rfl (lv_at hl 3 rfl) ?_
      refine lv_aload_n hx hb dX2_remove_79 rfl (lv_at hl 0 rfl) ?_
      refine va_get (D := (dC, dI)) (ci := 2) (v := .ref (g 3)) (C := RX2) (T := TX2) (N := 6) hx hb hts (by decide +kernel) hown hK hP 0 rfl rfl 2 (by decide) (hts (.fieldLink RX2 16 "RevisionTreeModel" "size" "[I") (by decide +kernel)) (fun _ h9 => h9) rfl dX2_remove_80 ?_
      refine lv_iload_n hx hb dX2_remove_83 rfl (lv_at hl 3 rfl) ?_
      refine lv_iconst (v := nI 1) hx hb dX2_remove_84 (by decide) ?_
      refine lv_iadd hx hb dX2_remove_85 ?_
      refine zt (y := nI ((1200 + c) + 1)) (nI_add _ _) ?_
      refine zrdN hx hb hK hP 3 0 rfl rfl (j := (1200 + c) + 1) (by omega) (by decide) dX2_remove_86 ?_
      refine zwrN hx hb hK hP hD hS 3 0 rfl rfl (j := 1200 + c) (by omega) (by decide) dX2_remove_87 (fun H locs hP hD hS => ?_)
      have hP : va_P (dC, dI) vwCl (wM g cI (upd K' (1200 + c) (K' ((1200 + c) + 1)), upd V' (1200 + c) (V' ((1200 + c) + 1)), upd S' (1200 + c) (S' ((1200 + c) + 1)), (va_up (mC w) 3 (mC w 3 - 1)), mR w, mL w)) H := hP
      have hD : va_D A (wM g cI (upd K' (1200 + c) (K' ((1200 + c) + 1)), upd V' (1200 + c) (V' ((1200 + c) + 1)), upd S' (1200 + c) (S' ((1200 + c) + 1)), (va_up (mC w) 3 (mC w 3 - 1)), mR w, mL w)) := hD
      refine lv_iinc (v := nI ((1200 + c) + 1)) (lv' := [(3, .int (nI ((1200 + c) + 1))), (0, .ref (g 0)), (1, .int k), (2, .int (nI (400 * 3 + q)))]) hx hb dX2_remove_88 hl (k := 3) rfl (zinc _) (by decide) rfl (fun ls hl => ?_)
      refine lv_goto (tgt := 32) hx hb dX2_remove_91 (by decide) ?_
      exact ih (c + 1, upd K' (1200 + c) (K' ((1200 + c) + 1)), upd V' (1200 + c) (V' ((1200 + c) + 1)), upd S' (1200 + c) (S' ((1200 + c) + 1))) _ _ _ ⟨⟨by omega, by omega, slR_s hk h1, slR_s hv h1, slR_s hs h1⟩, hP, hD, hS, lv_sub hl [1, 2, 3, 0] rfl⟩ (by show mC w 3 - (c + 1) < mC w 3 - c; omega)
  · refine lv_bipush (v := (-2)) hx hb dX2_remove_17 (by decide) ?_
    exact W.iret (v := (-2)) hx hb hr (fun t9 ht9 hW9 => ⟨⟨_, w, rfl, by subst eq; unfold aRemove; rw [if_neg (show ¬ tHas (tsel (view w) 3) k from h_14)]; exact ⟨rfl, eqR_rf⟩, by show va_P _ _ _ t9.heap; rw [ht9]; exact hP⟩, hS.F ht9⟩) hS.2.2 dX2_remove_19
end
section
set_option maxHeartbeats 4000000 in
set_option maxRecDepth 100000 in
/-- copy -/
theorem c_Model_copy (l : Launch) (dC : Nat → ClassId) (dI : Nat → Nat → Nat) (cI cT : ClassId) (g : Nat → Nat) (w : MS) (fr to : Nat) (sz : Nat) (hfr : fr < 4) (hto : to < 4) (hne : fr ≠ to) (hle : ∀ t, t < 4 → mC w t ≤ 400) : Met l yX2_copy wsX2_copy ({ frames := 0, cells := 0, slots := 0, locals := 0 }) (va_Pc [.ref (g 0), .int (nI fr), .int (nI to)] (zPW (dC, dI) vwCl cI cT (wM g cI w) sz)) (va_Qv (fun (u : MS) => eqR (view u) (tset (view w) to (tsel (view w) fr))) (fun u t => va_P (dC, dI) vwCl (wM g cI u) t.heap) (va_A (wM g cI w) sz)) 0 0 (va_A (wM g cI w) sz) := by
  refine Met.ofW (cc := cX2_copy) (maxL := 4) (ret := none) (by decide) rfl ?_
  intro p e s m args below meth c s₁ B hml hv
  obtain ⟨rfl, hsz, hP, hK, hD0⟩ := hv
  have hx := B.exec
  have hb := B.bytes
  have hr := B.returns
  have hts := atoms_spec (ws := wsX2_copy) B.pre
  have hown : s.vm.findClass RX2 = some m.cls := findClass_of_methodNamed B.named
  have hlocks := B.notSynchronized
  subst hsz
  have hD := hD0.self (sz := s.heap.size)
  generalize hAe : va_A (wM g cI w) s.heap.size = A at hD ⊢
  have hA : ∀ q : Nat, s.heap.size ≤ q → A q := fun q h => by rw [← hAe]; exact Or.inr h
  have hS : va_S A s.heap s.heap [] := va_S.rf
  have hl := lv_entry ([.ref (g 0), .int (nI fr), .int (nI to)]) (n := 4) (Nat.le_of_ble_eq_true rfl)
  rw [lg_entry_eq]
  generalize (lg_sl ([.ref (g 0), .int (nI fr), .int (nI to)]) ++ List.replicate (4 - (lg_sl ([.ref (g 0), .int (nI fr), .int (nI to)])).length) Slot.unset).toArray = ls at hl ⊢
  have hl : lv_has ls 4 [(0, .ref (g 0)), (1, .int (nI fr)), (2, .int (nI to))] := hl
  have hcf : mC w fr ≤ 400 := hle fr hfr
  refine lv_iconst (v := nI 0) hx hb dX2_copy_0 (by decide) ?_
  refine lv_istore_n (lv' := [(3, .int (nI 0)), (0, .ref (g 0)), (1, .int (nI fr)), (2, .int (nI to))]) hx hb dX2_copy_1 rfl hl (by decide) rfl (fun ls hl => ?_)
  refine zloop (σ := Nat × (Nat → Int32) × (Nat → Int32) × (Nat → Int32)) (fun x H locs ls => match x with | (c, K', V', S') => (c ≤ mC w fr ∧ cpR (mK w) K' fr to c ∧ cpR (mV w) V' fr to c ∧ cpR (mS w) S' fr to c) ∧ va_P (dC, dI) vwCl (wM g cI (K', V', S', mC w, mR w, mL w)) H ∧ va_D A (wM g cI (K', V', S', mC w, mR w, mL w)) ∧ va_S A s.heap H locs ∧ lv_has ls 4 [(0, .ref (g 0)), (1, .int (nI fr)), (2, .int (nI to)), (3, .int (nI c))]) (fun x => mC w fr - x.1) ?_ (0, mK w, mV w, mS w) ⟨⟨Nat.zero_le _, cpR_0, cpR_0, cpR_0⟩, hP, hD, hS, lv_sub hl [1, 2, 3, 0] rfl⟩
  rintro ⟨c, K', V', S'⟩ H locs ls ⟨⟨h1, hk, hv, hs⟩, hP, hD, hS, hl⟩ ih
  refine lv_iload_n hx hb dX2_copy_2 rfl (lv_at hl 3 rfl) ?_
  refine lv_aload_n hx hb dX2_copy_3 rfl (lv_at hl 0 rfl) ?_
  refine va_get (D := (dC, dI)) (ci := 2) (v := .ref (g 4)) (C := RX2) (T := TX2) (N := 6) hx hb hts (by decide +kernel) hown hK hP 0 rfl rfl 3 (by decide) (hts (.fieldLink RX2 19 "RevisionTreeModel" "count" "[I") (by decide +kernel)) (fun _ h9 => h9) rfl dX2_copy_4 ?_
  refine lv_iload_n hx hb dX2_copy_7 rfl (lv_at hl 1 rfl) ?_
  refine zrdN hx hb hK hP 4 0 rfl rfl (j := fr) (by omega) (by decide) dX2_copy_8 ?_
  refine zt (y := nI (mC w fr)) rfl ?_
  refine zge (tgt := 90) hx hb dX2_copy_9 (by decide) (by omega) (by omega) (fun h_9 => ?_) (fun h_9 => ?_)
  · obtain rfl : c = mC w fr := by omega
    refine lv_aload_n hx hb dX2_copy_90 rfl (lv_at hl 0 rfl) ?_
    refine va_get (D := (dC, dI)) (ci := 2) (v := .ref (g 4)) (C := RX2) (T := TX2) (N := 6) hx hb hts (by decide +kernel) hown hK hP 0 rfl rfl 3 (by decide) (hts (.fieldLink RX2 19 "RevisionTreeModel" "count" "[I") (by decide +kernel)) (fun _ h9 => h9) rfl dX2_copy_91 ?_
    refine lv_iload_n hx hb dX2_copy_94 rfl (lv_at hl 2 rfl) ?_
    refine lv_aload_n hx hb dX2_copy_95 rfl (lv_at hl 0 rfl) ?_
    refine va_get (D := (dC, dI)) (ci := 2) (v := .ref (g 4)) (C := RX2) (T := TX2) (N := 6) hx hb hts (by decide +kernel) hown hK hP 0 rfl rfl 3 (by decide) (hts (.fieldLink RX2 19 "RevisionTreeModel" "count" "[I") (by decide +kernel)) (fun _ h9 => h9) rfl dX2_copy_96 ?_
    refine lv_iload_n hx hb dX2_copy_99 rfl (lv_at hl 1 rfl) ?_
    refine zrdN hx hb hK hP 4 0 rfl rfl (j := fr) (by omega) (by decide) dX2_copy_100 ?_
    refine zt (y := nI (mC w fr)) rfl ?_
    refine zwrN hx hb hK hP hD hS 4 0 rfl rfl (j := to) (by omega) (by decide) dX2_copy_101 (fun H locs hP hD hS => ?_)
    rw [rd_up (f := mC w) (j := to) (x := mC w fr)] at hP hD
    have hP : va_P (dC, dI) vwCl (wM g cI (K', V', S', (va_up (mC w) to (mC w fr)), mR w, mL w)) H := hP
    have hD : va_D A (wM g cI (K', V', S', (va_up (mC w) to (mC w fr)), mR w, mL w)) := hD
    exact W.vret hx hb hr (fun t9 ht9 hW9 => ⟨⟨(K', V', S', (va_up (mC w) to (mC w fr)), mR w, mL w), rfl, cp_view hto hfr hle hk hv hs, by show va_P _ _ _ t9.heap; rw [ht9]; exact hP⟩, hS.F ht9⟩) hS.2.2 dX2_copy_102
  · refine lv_aload_n hx hb dX2_copy_12 rfl (lv_at hl 0 rfl) ?_
    refine va_get (D := (dC, dI)) (ci := 2) (v := .ref (g 1)) (C := RX2) (T := TX2) (N := 6) hx hb hts (by decide +kernel) hown hK hP 0 rfl rfl 0 (by decide) (hts (.fieldLink RX2 9 "RevisionTreeModel" "key" "[I") (by decide +kernel)) (fun _ h9 => h9) rfl dX2_copy_13 ?_
    refine lv_sipush (v := nI 400) hx hb dX2_copy_16 (by decide) ?_
    refine lv_iload_n hx hb dX2_copy_19 rfl (lv_at hl 2 rfl) ?_
    refine lv_imul hx hb dX2_copy_20 ?_
    refine zt (y := nI (400 * to)) (pk_mul _ _) ?_
    refine lv_iload_n hx hb dX2_copy_21 rfl (lv_at hl 3 rfl) ?_
    refine lv_iadd hx hb dX2_copy_22 ?_
    refine zt (y := nI ((400 * to) + c)) (nI_add _ _) ?_
    refine lv_aload_n hx hb dX2_copy_23 rfl (lv_at hl 0 rfl) ?_
    refine va_get (D := (dC, dI)) (ci := 2) (v := .ref (g 1)) (C := RX2) (T := TX2) (N := 6) hx hb hts (by decide +kernel) hown hK hP 0 rfl rfl 0 (by decide) (hts (.fieldLink RX2 9 "RevisionTreeModel" "key" "[I") (by decide +kernel)) (fun _ h9 => h9) rfl dX2_copy_24 ?_
    refine lv_sipush (v := nI 400) hx hb dX2_copy_27 (by decide) ?_
    refine lv_iload_n hx hb dX2_copy_30 rfl (lv_at hl 1 rfl) ?_
    refine lv_imul hx hb dX2_copy_31 ?_
    refine zt (y := nI (400 * fr)) (pk_mul _ _) ?_
    refine lv_iload_n hx hb dX2_copy_32 rfl (lv_at hl 3 rfl) ?_
    refine lv_iadd hx hb dX2_copy_33 ?_
    refine zt (y := nI ((400 * fr) + c)) (nI_add _ _) ?_
    refine zrdN hx hb hK hP 1 0 rfl rfl (j := (400 * fr) + c) (by omega) (by decide) dX2_copy_34 ?_
    refine zwrN hx hb hK hP hD hS 1 0 rfl rfl (j := (400 * to) + c) (by omega) (by decide) dX2_copy_35 (fun H locs hP hD hS => ?_)
    have hP : va_P (dC, dI) vwCl (wM g cI (upd K' ((400 * to) + c) (K' ((400 * fr) + c)), V', S', mC w, mR w, mL w)) H := hP
    have hD : va_D A (wM g cI (upd K' ((400 * to) + c) (K' ((400 * fr) + c)), V', S', mC w, mR w, mL w)) := hD
    refine lv_aload_n hx hb dX2_copy_36 rfl (lv_at hl 0 rfl) ?_
    refine va_get (D := (dC, dI)) (ci := 2) (v := .ref (g 2)) (C := RX2) (T := TX2) (N := 6) hx hb hts (by decide +kernel) hown hK hP 0 rfl rfl 1 (by decide) (hts (.fieldLink RX2 13 "RevisionTreeModel" "value" "[I") (by decide +kernel)) (fun _ h9 => h9) rfl dX2_copy_37 ?_
    refine lv_sipush (v := nI 400) hx hb dX2_copy_40 (by decide) ?_
    refine lv_iload_n hx hb dX2_copy_43 rfl (lv_at hl 2 rfl) ?_
    refine lv_imul hx hb dX2_copy_44 ?_
    refine zt (y := nI (400 * to)) (pk_mul _ _) ?_
    refine lv_iload_n hx hb dX2_copy_45 rfl (lv_at hl 3 rfl) ?_
    refine lv_iadd hx hb dX2_copy_46 ?_
    refine zt (y := nI ((400 * to) + c)) (nI_add _ _) ?_
    refine lv_aload_n hx hb dX2_copy_47 rfl (lv_at hl 0 rfl) ?_
    refine va_get (D := (dC, dI)) (ci := 2) (v := .ref (g 2)) (C := RX2) (T := TX2) (N := 6) hx hb hts (by decide +kernel) hown hK hP 0 rfl rfl 1 (by decide) (hts (.fieldLink RX2 13 "RevisionTreeModel" "value" "[I") (by decide +kernel)) (fun _ h9 => h9) rfl dX2_copy_48 ?_
    refine lv_sipush (v := nI 400) hx hb dX2_copy_51 (by decide) ?_
    refine lv_iload_n hx hb dX2_copy_54 rfl (lv_at hl 1 rfl) ?_
    refine lv_imul hx hb dX2_copy_55 ?_
    refine zt (y := nI (400 * fr)) (pk_mul _ _) ?_
    refine lv_iload_n hx hb dX2_copy_56 rfl (lv_at hl 3 rfl) ?_
    refine lv_iadd hx hb dX2_copy_57 ?_
    refine zt (y := nI ((400 * fr) + c)) (nI_add _ _) ?_
    refine zrdN hx hb hK hP 2 0 rfl rfl (j := (400 * fr) + c) (by omega) (by decide) dX2_copy_58 ?_
    refine zwrN hx hb hK hP hD hS 2 0 rfl rfl (j := (400 * to) + c) (by omega) (by decide) dX2_copy_59 (fun H locs hP hD hS => ?_)
    have hP : va_P (dC, dI) vwCl (wM g cI (upd K' ((400 * to) + c) (K' ((400 * fr) + c)), upd V' ((400 * to) + c) (V' ((400 * fr) + c)), S', mC w, mR w, mL w)) H := hP
    have hD : va_D A (wM g cI (upd K' ((400 * to) + c) (K' ((400 * fr) + c)), upd V' ((400 * to) + c) (V' ((400 * fr) + c)), S', mC w, mR w, mL w)) := hD
    refine lv_aload_n hx hb dX2_copy_60 rfl (lv_at hl 0 rfl) ?_
    refine va_get (D := (dC, dI)) (ci := 2) (v := .ref (g 3)) (C := RX2) (T := TX2) (N := 6) hx hb hts (by decide +kernel) hown hK hP 0 rfl rfl 2 (by decide) (hts (.fieldLink RX2 16 "RevisionTreeModel" "size" "[I") (by decide +kernel)) (fun _ h9 => h9) rfl dX2_copy_61 ?_
    refine lv_sipush (v := nI 400) hx hb dX2_copy_64 (by decide) ?_
    refine lv_iload_n hx hb dX2_copy_67 rfl (lv_at hl 2 rfl) ?_
    refine lv_imul hx hb dX2_copy_68 ?_
    refine zt (y := nI (400 * to)) (pk_mul _ _) ?_
    refine lv_iload_n hx hb dX2_copy_69 rfl (lv_at hl 3 rfl) ?_
    refine lv_iadd hx hb dX2_copy_70 ?_
    refine zt (y := nI ((400 * to) + c)) (nI_add _ _) ?_
    refine lv_aload_n hx hb dX2_copy_71 rfl (lv_at hl 0 rfl) ?_
    refine va_get (D := (dC, dI)) (ci := 2) (v := .ref (g 3)) (C := RX2) (T := TX2) (N := 6) hx hb hts (by decide +kernel) hown hK hP 0 rfl rfl 2 (by decide) (hts (.fieldLink RX2 16 "RevisionTreeModel" "size" "[I") (by decide +kernel)) (fun _ h9 => h9) rfl dX2_copy_72 ?_
    refine lv_sipush (v := nI 400) hx hb dX2_copy_75 (by decide) ?_
    refine lv_iload_n hx hb dX2_copy_78 rfl (lv_at hl 1 rfl) ?_
    refine lv_imul hx hb dX2_copy_79 ?_
    refine zt (y := nI (400 * fr)) (pk_mul _ _) ?_
    refine lv_iload_n hx hb dX2_copy_80 rfl (lv_at hl 3 rfl) ?_
    refine lv_iadd hx hb dX2_copy_81 ?_
    refine zt (y := nI ((400 * fr) + c)) (nI_add _ _) ?_
    refine zrdN hx hb hK hP 3 0 rfl rfl (j := (400 * fr) + c) (by omega) (by decide) dX2_copy_82 ?_
    refine zwrN hx hb hK hP hD hS 3 0 rfl rfl (j := (400 * to) + c) (by omega) (by decide) dX2_copy_83 (fun H locs hP hD hS => ?_)
    have hP : va_P (dC, dI) vwCl (wM g cI (upd K' ((400 * to) + c) (K' ((400 * fr) + c)), upd V' ((400 * to) + c) (V' ((400 * fr) + c)), upd S' ((400 * to) + c) (S' ((400 * fr) + c)), mC w, mR w, mL w)) H := hP
    have hD : va_D A (wM g cI (upd K' ((400 * to) + c) (K' ((400 * fr) + c)), upd V' ((400 * to) + c) (V' ((400 * fr) + c)), upd S' ((400 * to) + c) (S' ((400 * fr) + c)), mC w, mR w, mL w)) := hD
    refine lv_iinc (v := nI (c + 1)) (lv' := [(3, .int (nI (c + 1))), (0, .ref (g 0)), (1, .int (nI fr)), (2, .int (nI to))]) hx hb dX2_copy_84 hl (k := 3) rfl (zinc _) (by decide) rfl (fun ls hl => ?_)
    refine lv_goto (tgt := 2) hx hb dX2_copy_87 (by decide) ?_
    exact ih (c + 1, upd K' ((400 * to) + c) (K' ((400 * fr) + c)), upd V' ((400 * to) + c) (V' ((400 * fr) + c)), upd S' ((400 * to) + c) (S' ((400 * fr) + c))) _ _ _ ⟨⟨by omega, cpR_s hk hne (by omega), cpR_s hv hne (by omega), cpR_s hs hne (by omega)⟩, hP, hD, hS, lv_sub hl [1, 2, 3, 0] rfl⟩ (by show mC w fr - (c + 1) < mC w fr - c; omega)
set_option maxHeartbeats 4000000 in
set_option maxRecDepth 100000 in
/-- commit -/
theorem c_Model_commit (l : Launch) (dC : Nat → ClassId) (dI : Nat → Nat → Nat) (cI cT : ClassId) (g : Nat → Nat) (w : MS) (cut : Int32) (sz : Nat) (L : Nat) (hok : okR L (view w)) (hL : L < 500000) : Met l yX2_commit wsX2_commit ({ frames := 1, cells := 0, slots := 0, locals := 23 }) (va_Pc [.ref (g 0), .int cut] (zPW (dC, dI) vwCl cI cT (wM g cI w) sz)) (va_Qi (fun (r9 : Int32) (u9 : MS) => r9 = (aCommit (view w) cut).1 ∧ eqR (view u9) (aCommit (view w) cut).2) (fun u t => va_P (dC, dI) vwCl (wM g cI u) t.heap) (va_A (wM g cI w) sz)) 0 0 (va_A (wM g cI w) sz) := by
  refine Met.ofW (cc := cX2_commit) (maxL := 2) (ret := (some .int)) (by decide) rfl ?_
  intro p e s m args below meth c s₁ B hml hv
  obtain ⟨rfl, hsz, hP, hK, hD0⟩ := hv
  have hx := B.exec
  have hb := B.bytes
  have hr := B.returns
  have hts := atoms_spec (ws := wsX2_commit) B.pre
  have hown : s.vm.findClass RX2 = some m.cls := findClass_of_methodNamed B.named
  have hlocks := B.notSynchronized
  subst hsz
  have hD := hD0.self (sz := s.heap.size)
  generalize hAe : va_A (wM g cI w) s.heap.size = A at hD ⊢
  have hA : ∀ q : Nat, s.heap.size ≤ q → A q := fun q h => by rw [← hAe]; exact Or.inr h
  have hS : va_S A s.heap s.heap [] := va_S.rf
  have hl := lv_entry ([.ref (g 0), .int cut]) (n := 2) (Nat.le_of_ble_eq_true rfl)
  rw [lg_entry_eq]
  generalize (lg_sl ([.ref (g 0), .int cut]) ++ List.replicate (2 - (lg_sl ([.ref (g 0), .int cut])).length) Slot.unset).toArray = ls at hl ⊢
  have hl : lv_has ls 2 [(0, .ref (g 0)), (1, .int cut)] := hl
  have hle : ∀ t, t < 4 → mC w t ≤ 400 := fun t ht => by have h9 := (hok.1 t ht).1; rw [view_t w ht] at h9; exact h9
  have hc3 : mC w 3 ≤ 400 := hle 3 (by decide)
  have hlat : mL w ≤ L := hok.2.2
  refine lv_iload_n hx hb dX2_commit_0 rfl (lv_at hl 1 rfl) ?_
  refine lv_if_lt (tgt := 18) hx hb dX2_commit_1 (by decide) (fun h_1 => ?_) (fun h_1 => ?_)
  · refine lv_aload_n hx hb dX2_commit_18 rfl (lv_at hl 0 rfl) ?_
    refine lv_dup hx hb dX2_commit_19 rfl ?_
    refine va_get (D := (dC, dI)) (ci := 2) (v := .int (nI (mL w))) (C := RX2) (T := TX2) (N := 6) hx hb hts (by decide +kernel) hown hK hP 0 rfl rfl 5 (by decide) (hts (.fieldLink RX2 37 "RevisionTreeModel" "latest" "I") (by decide +kernel)) (fun _ h9 => h9) rfl dX2_commit_20 ?_
    refine lv_iconst (v := nI 1) hx hb dX2_commit_23 (by decide) ?_
    refine lv_iadd hx hb dX2_commit_24 ?_
    refine zt (y := nI ((mL w) + 1)) (nI_add _ _) ?_
    refine va_put (D := (dC, dI)) (ci := 2) (v := .int (nI ((mL w) + 1))) (ty := .int) (C := RX2) (T := TX2) (N := 6) hx hb hts (by decide +kernel) tyX2 tyX2_ok nmX2 hown hK hP hD hS 0 rfl rfl 5 (by decide) (hts (.fieldLink RX2 37 "RevisionTreeModel" "latest" "I") (by decide +kernel)) (fun _ h9 => h9) rfl (by decide +kernel) rfl rfl (Nat.le_of_ble_eq_true rfl) dX2_commit_25 (fun H locs hP hD hS => ?_)
    have hP : va_P (dC, dI) vwCl (wM g cI (mK w, mV w, mS w, mC w, mR w, mL w + 1)) H := hP
    have hD : va_D A (wM g cI (mK w, mV w, mS w, mC w, mR w, mL w + 1)) := hD
    refine lv_aload_n hx hb dX2_commit_28 rfl (lv_at hl 0 rfl) ?_
    refine lv_iconst (v := nI 3) hx hb dX2_commit_29 (by decide) ?_
    refine lv_aload_n hx hb dX2_commit_30 rfl (lv_at hl 0 rfl) ?_
    refine va_get (D := (dC, dI)) (ci := 2) (v := .int (nI (mL w + 1))) (C := RX2) (T := TX2) (N := 6) hx hb hts (by decide +kernel) hown hK hP 0 rfl rfl 5 (by decide) (hts (.fieldLink RX2 37 "RevisionTreeModel" "latest" "I") (by decide +kernel)) (fun _ h9 => h9) rfl dX2_commit_31 ?_
    refine lv_iconst (v := nI 3) hx hb dX2_commit_34 (by decide) ?_
    refine lv_irem hx hb dX2_commit_35 (by decide) ?_
    refine zt (y := nI ((mL w + 1) % 3)) (pk_rem (by omega) (by omega) (by omega)) ?_
    refine zwrv (w1 := fun u : MS => wM g cI u) (va_runV (As := [.int (nI 3), .int (nI ((mL w + 1) % 3))]) (rest := []) ⟨hx, hb, hml, hown, hts⟩ (c_Model_copy l dC dI cI cT g (mK w, mV w, mS w, mC w, mR w, mL w + 1) 3 ((mL w + 1) % 3) H.size (by omega) (by omega) (by omega) hle) (cwV 2 hts gX2_commit_X2_copy rfl rfl rfl (by decide +kernel) ⟨Nat.le_of_ble_eq_true rfl, Nat.le_of_ble_eq_true rfl⟩) (zpreV hK (hP.sub [0, 1, 2, 3, 4, 5] rfl) (hD.sub [0, 1, 2, 3, 4, 5] (by decide) rfl) rfl 0 rfl) rfl rfl hl.1 rfl (lv_room (Nat.le_of_ble_eq_true rfl)) dX2_commit_36 ⟨Nat.le_of_ble_eq_true rfl, Nat.le_of_ble_eq_true rfl⟩) hP hD hS hA [0, 1, 2, 3, 4, 5] rfl (fun _ => rfl) (fun _ => rfl) (fun u H locs hw hP hD hS => ?_)
    have hP : va_P (dC, dI) vwCl (wM g cI u) H := hP
    have hD : va_D A (wM g cI u) := hD
    have hu : mL u = mL w + 1 := hw.2.2.trans (tset_L _ _ _)
    refine lv_aload_n hx hb dX2_commit_39 rfl (lv_at hl 0 rfl) ?_
    refine va_get (D := (dC, dI)) (ci := 2) (v := .int (nI (mL u))) (C := RX2) (T := TX2) (N := 6) hx hb hts (by decide +kernel) hown hK hP 0 rfl rfl 5 (by decide) (hts (.fieldLink RX2 37 "RevisionTreeModel" "latest" "I") (by decide +kernel)) (fun _ h9 => h9) rfl dX2_commit_40 ?_
    exact W.iret (v := nI (mL u)) hx hb hr (fun t9 ht9 hW9 => ⟨⟨_, u, rfl, by unfold aCommit; rw [if_pos h_1]; exact ⟨by show nI (mL u) = nI (mL w + 1); exact congrArg nI hu, hw⟩, by show va_P _ _ _ t9.heap; rw [ht9]; exact hP⟩, hS.F ht9⟩) hS.2.2 dX2_commit_43
  · refine lv_aload_n hx hb dX2_commit_4 rfl (lv_at hl 0 rfl) ?_
    refine lv_aload_n hx hb dX2_commit_5 rfl (lv_at hl 0 rfl) ?_
    refine va_get (D := (dC, dI)) (ci := 2) (v := .int (nI (mL w))) (C := RX2) (T := TX2) (N := 6) hx hb hts (by decide +kernel) hown hK hP 0 rfl rfl 5 (by decide) (hts (.fieldLink RX2 37 "RevisionTreeModel" "latest" "I") (by decide +kernel)) (fun _ h9 => h9) rfl dX2_commit_6 ?_
    refine lv_iconst (v := nI 3) hx hb dX2_commit_9 (by decide) ?_
    refine lv_irem hx hb dX2_commit_10 (by decide) ?_
    refine zt (y := nI ((mL w) % 3)) (pk_rem (by omega) (by omega) (by omega)) ?_
    refine lv_iconst (v := nI 3) hx hb dX2_commit_11 (by decide) ?_
    refine zwrv (w1 := fun u : MS => wM g cI u) (va_runV (As := [.int (nI ((mL w) % 3)), .int (nI 3)]) (rest := []) ⟨hx, hb, hml, hown, hts⟩ (c_Model_copy l dC dI cI cT g w (mL w % 3) 3 s.heap.size (by omega) (by omega) (by omega) hle) (cwV 2 hts gX2_commit_X2_copy rfl rfl rfl (by decide +kernel) ⟨Nat.le_of_ble_eq_true rfl, Nat.le_of_ble_eq_true rfl⟩) (zpreV hK (hP.sub [0, 1, 2, 3, 4, 5] rfl) (hD.sub [0, 1, 2, 3, 4, 5] (by decide) rfl) rfl 0 rfl) rfl rfl hl.1 rfl (lv_room (Nat.le_of_ble_eq_true rfl)) dX2_commit_12 ⟨Nat.le_of_ble_eq_true rfl, Nat.le_of_ble_eq_true rfl⟩) hP hD hS hA [0, 1, 2, 3, 4, 5] rfl (fun _ => rfl) (fun _ => rfl) (fun u H locs hw hP hD hS => ?_)
    have hP : va_P (dC, dI) vwCl (wM g cI u) H := hP
    have hD : va_D A (wM g cI u) := hD
    refine lv_bipush (v := (-5)) hx hb dX2_commit_15 (by decide) ?_
    exact W.iret (v := (-5)) hx hb hr (fun t9 ht9 hW9 => ⟨⟨_, u, rfl, by unfold aCommit; rw [if_neg h_1]; exact ⟨rfl, hw⟩, by show va_P _ _ _ t9.heap; rw [ht9]; exact hP⟩, hS.F ht9⟩) hS.2.2 dX2_commit_17
set_option maxHeartbeats 4000000 in
set_option maxRecDepth 100000 in
/-- forget -/
theorem c_Model_forget (l : Launch) (dC : Nat → ClassId) (dI : Nat → Nat → Nat) (cI cT : ClassId) (g : Nat → Nat) (w : MS) (sz : Nat) (L : Nat) (hok : okR L (view w)) (hL : L < 500000) : Met l yX2_forget wsX2_forget ({ frames := 1, cells := 0, slots := 0, locals := 23 }) (va_Pc [.ref (g 0)] (zPW (dC, dI) vwCl cI cT (wM g cI w) sz)) (va_Qi (fun (r9 : Int32) (u9 : MS) => r9 = (aForget (view w)).1 ∧ eqR (view u9) (aForget (view w)).2) (fun u t => va_P (dC, dI) vwCl (wM g cI u) t.heap) (va_A (wM g cI w) sz)) 0 0 (va_A (wM g cI w) sz) := by
  refine Met.ofW (cc := cX2_forget) (maxL := 1) (ret := (some .int)) (by decide) rfl ?_
  intro p e s m args below meth c s₁ B hml hv
  obtain ⟨rfl, hsz, hP, hK, hD0⟩ := hv
  have hx := B.exec
  have hb := B.bytes
  have hr := B.returns
  have hts := atoms_spec (ws := wsX2_forget) B.pre
  have hown : s.vm.findClass RX2 = some m.cls := findClass_of_methodNamed B.named
  have hlocks := B.notSynchronized
  subst hsz
  have hD := hD0.self (sz := s.heap.size)
  generalize hAe : va_A (wM g cI w) s.heap.size = A at hD ⊢
  have hA : ∀ q : Nat, s.heap.size ≤ q → A q := fun q h => by rw [← hAe]; exact Or.inr h
  have hS : va_S A s.heap s.heap [] := va_S.rf
  have hl := lv_entry ([.ref (g 0)]) (n := 1) (Nat.le_of_ble_eq_true rfl)
  rw [lg_entry_eq]
  generalize (lg_sl ([.ref (g 0)]) ++ List.replicate (1 - (lg_sl ([.ref (g 0)])).length) Slot.unset).toArray = ls at hl ⊢
  have hl : lv_has ls 1 [(0, .ref (g 0))] := hl
  have hle : ∀ t, t < 4 → mC w t ≤ 400 := fun t ht => by have h9 := (hok.1 t ht).1; rw [view_t w ht] at h9; exact h9
  have hc3 : mC w 3 ≤ 400 := hle 3 (by decide)
  have hlat : mL w ≤ L := hok.2.2
  refine lv_aload_n hx hb dX2_forget_0 rfl (lv_at hl 0 rfl) ?_
  refine lv_aload_n hx hb dX2_forget_1 rfl (lv_at hl 0 rfl) ?_
  refine va_get (D := (dC, dI)) (ci := 2) (v := .int (nI (mL w))) (C := RX2) (T := TX2) (N := 6) hx hb hts (by decide +kernel) hown hK hP 0 rfl rfl 5 (by decide) (hts (.fieldLink RX2 37 "RevisionTreeModel" "latest" "I") (by decide +kernel)) (fun _ h9 => h9) rfl dX2_forget_2 ?_
  refine lv_iconst (v := nI 3) hx hb dX2_forget_5 (by decide) ?_
  refine lv_irem hx hb dX2_forget_6 (by decide) ?_
  refine zt (y := nI ((mL w) % 3)) (pk_rem (by omega) (by omega) (by omega)) ?_
  refine lv_iconst (v := nI 3) hx hb dX2_forget_7 (by decide) ?_
  refine zwrv (w1 := fun u : MS => wM g cI u) (va_runV (As := [.int (nI ((mL w) % 3)), .int (nI 3)]) (rest := []) ⟨hx, hb, hml, hown, hts⟩ (c_Model_copy l dC dI cI cT g w (mL w % 3) 3 s.heap.size (by omega) (by omega) (by omega) hle) (cwV 2 hts gX2_forget_X2_copy rfl rfl rfl (by decide +kernel) ⟨Nat.le_of_ble_eq_true rfl, Nat.le_of_ble_eq_true rfl⟩) (zpreV hK (hP.sub [0, 1, 2, 3, 4, 5] rfl) (hD.sub [0, 1, 2, 3, 4, 5] (by decide) rfl) rfl 0 rfl) rfl rfl hl.1 rfl (lv_room (Nat.le_of_ble_eq_true rfl)) dX2_forget_8 ⟨Nat.le_of_ble_eq_true rfl, Nat.le_of_ble_eq_true rfl⟩) hP hD hS hA [0, 1, 2, 3, 4, 5] rfl (fun _ => rfl) (fun _ => rfl) (fun u H locs hw hP hD hS => ?_)
  have hP : va_P (dC, dI) vwCl (wM g cI u) H := hP
  have hD : va_D A (wM g cI u) := hD
  have hu : mC u 3 = (tsel (view w) (mL w % 3)).1 := by have h9 := (hw.1 3 (by decide)).1; rw [tset_same _ _ (by decide)] at h9; exact h9
  refine lv_aload_n hx hb dX2_forget_11 rfl (lv_at hl 0 rfl) ?_
  refine va_get (D := (dC, dI)) (ci := 2) (v := .ref (g 4)) (C := RX2) (T := TX2) (N := 6) hx hb hts (by decide +kernel) hown hK hP 0 rfl rfl 3 (by decide) (hts (.fieldLink RX2 19 "RevisionTreeModel" "count" "[I") (by decide +kernel)) (fun _ h9 => h9) rfl dX2_forget_12 ?_
  refine lv_iconst (v := nI 3) hx hb dX2_forget_15 (by decide) ?_
  refine zrdN hx hb hK hP 4 0 rfl rfl (j := 3) (by omega) (by decide) dX2_forget_16 ?_
  exact W.iret (v := nI (mC u 3)) hx hb hr (fun t9 ht9 hW9 => ⟨⟨_, u, rfl, ⟨congrArg nI hu, hw⟩, by show va_P _ _ _ t9.heap; rw [ht9]; exact hP⟩, hS.F ht9⟩) hS.2.2 dX2_forget_17
set_option maxHeartbeats 4000000 in
set_option maxRecDepth 100000 in
/-- open -/
theorem c_Model_open (l : Launch) (dC : Nat → ClassId) (dI : Nat → Nat → Nat) (cI cT : ClassId) (g : Nat → Nat) (w : MS) (r : Int32) (sz : Nat) (L : Nat) (hok : okR L (view w)) (hL : L < 500000) : Met l yX2_open wsX2_open ({ frames := 0, cells := 0, slots := 0, locals := 0 }) (va_Pc [.ref (g 0), .int r] (zPW (dC, dI) vwCl cI cT (wM g cI w) sz)) (va_Qi (fun (r9 : Int32) (u9 : MS) => r9 = (aOpen (view w) r).1 ∧ eqR (view u9) (aOpen (view w) r).2) (fun u t => va_P (dC, dI) vwCl (wM g cI u) t.heap) (va_A (wM g cI w) sz)) 0 0 (va_A (wM g cI w) sz) := by
  refine Met.ofW (cc := cX2_open) (maxL := 2) (ret := (some .int)) (by decide) rfl ?_
  intro p e s m args below meth c s₁ B hml hv
  obtain ⟨rfl, hsz, hP, hK, hD0⟩ := hv
  have hx := B.exec
  have hb := B.bytes
  have hr := B.returns
  have hts := atoms_spec (ws := wsX2_open) B.pre
  have hown : s.vm.findClass RX2 = some m.cls := findClass_of_methodNamed B.named
  have hlocks := B.notSynchronized
  subst hsz
  have hD := hD0.self (sz := s.heap.size)
  generalize hAe : va_A (wM g cI w) s.heap.size = A at hD ⊢
  have hA : ∀ q : Nat, s.heap.size ≤ q → A q := fun q h => by rw [← hAe]; exact Or.inr h
  have hS : va_S A s.heap s.heap [] := va_S.rf
  have hl := lv_entry ([.ref (g 0), .int r]) (n := 2) (Nat.le_of_ble_eq_true rfl)
  rw [lg_entry_eq]
  generalize (lg_sl ([.ref (g 0), .int r]) ++ List.replicate (2 - (lg_sl ([.ref (g 0), .int r])).length) Slot.unset).toArray = ls at hl ⊢
  have hl : lv_has ls 2 [(0, .ref (g 0)), (1, .int r)] := hl
  have hle : ∀ t, t < 4 → mC w t ≤ 400 := fun t ht => by have h9 := (hok.1 t ht).1; rw [view_t w ht] at h9; exact h9
  have hc3 : mC w 3 ≤ 400 := hle 3 (by decide)
  have hlat : mL w ≤ L := hok.2.2
  refine lv_iload_n hx hb dX2_open_0 rfl (lv_at hl 1 rfl) ?_
  refine lv_if_lt (tgt := 9) hx hb dX2_open_1 (by decide) (fun h_1 => ?_) (fun h_1 => ?_)
  · refine lv_iconst (v := (-1)) hx hb dX2_open_9 (by decide) ?_
    exact W.iret (v := (-1)) hx hb hr (fun t9 ht9 hW9 => ⟨⟨_, w, rfl, by unfold aOpen; rw [if_pos (show r < 0 ∨ 3 < r from Or.inl h_1)]; exact ⟨rfl, eqR_rf⟩, by show va_P _ _ _ t9.heap; rw [ht9]; exact hP⟩, hS.F ht9⟩) hS.2.2 dX2_open_10
  · refine lv_iload_n hx hb dX2_open_4 rfl (lv_at hl 1 rfl) ?_
    refine lv_iconst (v := nI 3) hx hb dX2_open_5 (by decide) ?_
    refine lv_icmp_le (tgt := 11) hx hb dX2_open_6 (by decide) (fun h_6 => ?_) (fun h_6 => ?_)
    · obtain ⟨j, hj, rfl, ec⟩ := r_in h_1 (r33.mp h_6)
      refine lv_aload_n hx hb dX2_open_11 rfl (lv_at hl 0 rfl) ?_
      refine va_get (D := (dC, dI)) (ci := 2) (v := .ref (g 5)) (C := RX2) (T := TX2) (N := 6) hx hb hts (by decide +kernel) hown hK hP 0 rfl rfl 4 (by decide) (hts (.fieldLink RX2 22 "RevisionTreeModel" "reader" "[I") (by decide +kernel)) (fun _ h9 => h9) rfl dX2_open_12 ?_
      refine lv_iload_n hx hb dX2_open_15 rfl (lv_at hl 1 rfl) ?_
      refine lv_aload_n hx hb dX2_open_16 rfl (lv_at hl 0 rfl) ?_
      refine va_get (D := (dC, dI)) (ci := 2) (v := .int (nI (mL w))) (C := RX2) (T := TX2) (N := 6) hx hb hts (by decide +kernel) hown hK hP 0 rfl rfl 5 (by decide) (hts (.fieldLink RX2 37 "RevisionTreeModel" "latest" "I") (by decide +kernel)) (fun _ h9 => h9) rfl dX2_open_17 ?_
      refine zwrN hx hb hK hP hD hS 5 0 rfl rfl (j := j) (by omega) (by decide) dX2_open_20 (fun H locs hP hD hS => ?_)
      rw [rd_up (f := mR w) (j := j) (x := mL w)] at hP hD
      have hP : va_P (dC, dI) vwCl (wM g cI (mK w, mV w, mS w, mC w, (va_up (mR w) j (mL w)), mL w)) H := hP
      have hD : va_D A (wM g cI (mK w, mV w, mS w, mC w, (va_up (mR w) j (mL w)), mL w)) := hD
      refine lv_aload_n hx hb dX2_open_21 rfl (lv_at hl 0 rfl) ?_
      refine va_get (D := (dC, dI)) (ci := 2) (v := .int (nI (mL w))) (C := RX2) (T := TX2) (N := 6) hx hb hts (by decide +kernel) hown hK hP 0 rfl rfl 5 (by decide) (hts (.fieldLink RX2 37 "RevisionTreeModel" "latest" "I") (by decide +kernel)) (fun _ h9 => h9) rfl dX2_open_22 ?_
      exact W.iret (v := nI (mL w)) hx hb hr (fun t9 ht9 hW9 => ⟨⟨_, (mK w, mV w, mS w, mC w, (va_up (mR w) j (mL w)), mL w), rfl, by unfold aOpen; rw [if_neg (fun q => q.elim h_1 (r33.mp h_6)), ec]; exact ⟨rfl, eqR_rf⟩, by show va_P _ _ _ t9.heap; rw [ht9]; exact hP⟩, hS.F ht9⟩) hS.2.2 dX2_open_25
    · refine lv_iconst (v := (-1)) hx hb dX2_open_9 (by decide) ?_
      exact W.iret (v := (-1)) hx hb hr (fun t9 ht9 hW9 => ⟨⟨_, w, rfl, by unfold aOpen; rw [if_pos (show r < 0 ∨ 3 < r from Or.inr (i_lt (fun q => h_6 (r33.mpr (i_nl q)))))]; exact ⟨rfl, eqR_rf⟩, by show va_P _ _ _ t9.heap; rw [ht9]; exact hP⟩, hS.F ht9⟩) hS.2.2 dX2_open_10
end
section
-- MORE ROWS: a constructor's start that also knows a nest mate's link and the array class over a class
def zPX (D : va_G) (cl : List vw_C) (cI cT : ClassId) (ws : va_W) (sz : Nat) (a : String) (i : Nat) (x : MethodName) (h C : String) (U : State) : Prop := zPW D cl cI cT ws sz U ∧ va_Nw (.methodLinkNest a i x h) U ∧ va_AO C U
theorem zpreSX {s : State} {H : Heap} {D : va_G} {cl : List vw_C} {A : Nat → Prop} {cI cT : ClassId} {wc : va_W} {As : List Value} {a : String} {i : Nat} {x : MethodName} {h C : String} (hK : va_K D cl (zTY cI cT) s) (hPc : va_P D cl wc H) (hDc : va_D A wc) (hN : va_Nw (.methodLinkNest a i x h) s) (hO : va_AO C s) : PreS s H (va_Pc As (zPX D cl cI cT wc H.size a i x h C)) As :=
  ⟨fun av U g mk q => by
    obtain ⟨q0, ⟨q1, qP, qK, qD⟩, n1, n2⟩ := q
    exact ⟨q0, ⟨q1, qP, va_K.moved (u := U) (U := U.calling g mk av) (Vm.Alike.refl U.vm) qK, qD⟩, va_Nw.same rfl rfl n1, va_AO.moved (u := U) (U := U.calling g mk av) (Vm.Alike.refl U.vm) n2⟩,
   fun U hU hW => ⟨rfl, ⟨by rw [hU], by rw [hU]; exact hPc, va_K.moved hW.alike hK, hDc.weaken (fun _ _ _ _ => trivial)⟩, va_Nw.warmM hW hN, va_AO.moved hW.alike hO⟩⟩
end
section
set_option maxHeartbeats 4000000 in
set_option maxRecDepth 100000 in
/-- RevisionTree() -/
theorem c_Tree_init (l : Launch) (dC : Nat → ClassId) (dI : Nat → Nat → Nat) (cI cT : ClassId) (u0 : Nat) (sz : Nat)  : Met l yX1_init wsX1_init ({ frames := 2, cells := 18, slots := 4823, locals := 32 }) (va_Pc [.ref u0] (zPX (dC, dI) vwCl cI cT [(u0, .inr (1, [.null, .null, .null, .int (nI 0)]))] sz RX1 9 yX0_init "RevisionTree" RX0)) (va_Qv (fun (g : Nat → Nat) => g 0 = u0) (fun g t => va_P (dC, dI) vwCl (wR g cI cT a0s) t.heap ∧ va_D (va_A [(u0, .inr (1, [.null, .null, .null, .int (nI 0)]))] sz) (wR g cI cT a0s)) (va_A [(u0, .inr (1, [.null, .null, .null, .int (nI 0)]))] sz)) 18 4823 (va_A [(u0, .inr (1, [.null, .null, .null, .int (nI 0)]))] sz) := by
  refine Met.ofW (cc := cX1_init) (maxL := 2) (ret := none) (by decide) rfl ?_
  intro p e s m args below meth c s₁ B hml hv
  obtain ⟨rfl, ⟨hsz, hP, hK, hD0⟩, hNw, hAO⟩ := hv
  have hx := B.exec
  have hb := B.bytes
  have hr := B.returns
  have hts := atoms_spec (ws := wsX1_init) B.pre
  have hown : s.vm.findClass RX1 = some m.cls := findClass_of_methodNamed B.named
  have hlocks := B.notSynchronized
  have hin : meth.name = "<init>" := (name_of_methodNamed B.named B.method).1
  subst hsz
  have hD := hD0.self (sz := s.heap.size)
  generalize hAe : va_A [(u0, .inr (1, [.null, .null, .null, .int (nI 0)]))] s.heap.size = A at hD ⊢
  have hA : ∀ q : Nat, s.heap.size ≤ q → A q := fun q h => by rw [← hAe]; exact Or.inr h
  have hS : va_S A s.heap s.heap [] := va_S.rf
  have hl := lv_entry ([.ref u0]) (n := 2) (Nat.le_of_ble_eq_true rfl)
  rw [lg_entry_eq]
  generalize (lg_sl ([.ref u0]) ++ List.replicate (2 - (lg_sl ([.ref u0])).length) Slot.unset).toArray = ls at hl ⊢
  have hl : lv_has ls 2 [(0, .ref u0)] := hl
  refine lv_aload_n hx hb dX1_init_0 rfl (lv_at hl 0 rfl) ?_
  refine W.objInit hx hb hown (hts (.methodLink RX1 1 objectInit) (by decide +kernel)) (hts (.instanceMethod objectInit) (by decide +kernel)) (hts _ (List.mem_cons_of_mem _ (List.mem_append_left _ (List.mem_of_getElem? (i := 2) rfl)))) rfl (by rw [hml]; exact hl.1) rfl dX1_init_1 (Nat.le_of_ble_eq_true rfl) (Nat.le_of_ble_eq_true rfl) ?_
  refine W.eq (g2 := F0 m 4 ls []) rfl ?_
  refine lv_aload_n hx hb dX1_init_4 rfl (lv_at hl 0 rfl) ?_
  refine va_new (ci := 0) (fs := [.null, .null, .null, .int (nI 0)]) (C := RX0) (T := TX0) (N := 4) hx hb hts (by decide +kernel) tyX0 tyX0_ok hown (hts (.classLink RX1 7 RX0) (by decide +kernel)) (hts (.instantiable RX0 4) (by decide +kernel)) (hts (.initialized RX0) (by decide +kernel)) hK hP hD hS hA rfl (fun j hj => by rcases (show j = 0 ∨ j = 1 ∨ j = 2 ∨ j = 3 by omega) with rfl | rfl | rfl | rfl <;> rfl) (by decide +kernel) (by decide +kernel) dX1_init_5 (fun w0 H hP hD hS => ?_)
  have hP : va_P (dC, dI) vwCl [(u0, .inr (1, [.null, .null, .null, .int (nI 0)])), (w0, .inr (0, [.null, .null, .null, .int (nI 0)]))] H := hP
  have hD : va_D A [(u0, .inr (1, [.null, .null, .null, .int (nI 0)])), (w0, .inr (0, [.null, .null, .null, .int (nI 0)]))] := hD
  refine lv_dup hx hb dX1_init_8 rfl ?_
  have hFc := va_free (wc := [(w0, .inr (0, [.null, .null, .null, .int (nI 0)]))]) hD hS hA [1] rfl
  refine va_callv (va_runIN (As := []) (rest := [.ref w0, .ref u0]) ⟨hx, hb, hml, hown, hts⟩ (c_Table_init l dC dI cI cT w0 H.size) ⟨va_cnB 0 hts gX1_init_X0_init_n9 rfl rfl rfl hNw (hts (.initialized RX0) (by decide +kernel)) (by decide +kernel) ⟨Nat.le_of_ble_eq_true rfl, Nat.le_of_ble_eq_true rfl⟩, rfl, (hts (.instanceMethod yX0_init) (by decide +kernel))⟩ (zpreS hK (hP.sub [1] rfl) (hD.sub [1] (by decide) rfl)) rfl rfl hl.1 rfl (lv_room (Nat.le_of_ble_eq_true rfl)) dX1_init_9 ⟨by decide +kernel, by decide +kernel⟩) hS (fun q _ h => hFc q h) hFc (fun u t9 H1 locs ht9 hvm hw hB hz1 hk1 hS => ?_)
  obtain ⟨hP1, hD1⟩ := hB
  rw [ht9] at hP1
  obtain ⟨w1, w2, w3⟩ := u
  obtain ⟨hP, hD⟩ := va_join (wr := [(u0, .inr (1, [.null, .null, .null, .int (nI 0)]))]) (w1 := wT w0 w1 w2 w3 cI (0, (fun _ => nI 0), (fun _ => nI 0), (fun _ => nI 0))) hP hD [1] [0] rfl rfl (by decide) (by decide) hk1 hFc hP1 hD1
  generalize H1 = H at hP hS ⊢
  have hP : va_P (dC, dI) vwCl [(u0, .inr (1, [.null, .null, .null, .int (nI 0)])), (w0, .inr (0, [.ref w1, .ref w2, .ref w3, .int (nI 0)])), (w1, .inl (cI, 400, .inl (fun _ => nI 0))), (w2, .inl (cI, 400, .inl (fun _ => nI 0))), (w3, .inl (cI, 400, .inl (fun _ => nI 0)))] H := hP
  have hD : va_D A [(u0, .inr (1, [.null, .null, .null, .int (nI 0)])), (w0, .inr (0, [.ref w1, .ref w2, .ref w3, .int (nI 0)])), (w1, .inl (cI, 400, .inl (fun _ => nI 0))), (w2, .inl (cI, 400, .inl (fun _ => nI 0))), (w3, .inl (cI, 400, .inl (fun _ => nI 0)))] := hD
  refine va_putF (D := (dC, dI)) (ci := 1) (v := .ref w0) (ty := .object "RevisionTree$Table") (C := RX1) (T := TX1) (N := 4) hx hb hts (by decide +kernel) tyX1 tyX1_ok nmX1 hown hK hP hD hS 0 rfl rfl 0 (by decide) (hts (.fieldLink RX1 10 "RevisionTree" "worked" "LRevisionTree$Table;") (by decide +kernel)) (fun _ h9 => h9) rfl hin rfl (by decide +kernel) rfl rfl (Nat.le_of_ble_eq_true rfl) dX1_init_12 (fun H locs hP hD hS => ?_)
  have hP : va_P (dC, dI) vwCl [(u0, .inr (1, [.ref w0, .null, .null, .int (nI 0)])), (w0, .inr (0, [.ref w1, .ref w2, .ref w3, .int (nI 0)])), (w1, .inl (cI, 400, .inl (fun _ => nI 0))), (w2, .inl (cI, 400, .inl (fun _ => nI 0))), (w3, .inl (cI, 400, .inl (fun _ => nI 0)))] H := hP
  have hD : va_D A [(u0, .inr (1, [.ref w0, .null, .null, .int (nI 0)])), (w0, .inr (0, [.ref w1, .ref w2, .ref w3, .int (nI 0)])), (w1, .inl (cI, 400, .inl (fun _ => nI 0))), (w2, .inl (cI, 400, .inl (fun _ => nI 0))), (w3, .inl (cI, 400, .inl (fun _ => nI 0)))] := hD
  refine lv_aload_n hx hb dX1_init_15 rfl (lv_at hl 0 rfl) ?_
  refine lv_iconst (v := nI 3) hx hb dX1_init_16 (by decide) ?_
  refine va_newq hx hb hown (hts (.classLink RX1 7 RX0) (by decide +kernel)) hAO hK hP hD hS hA (N' := 3) (nI_pos (by decide +kernel)) (nI_clamp (by decide +kernel)) (by decide +kernel) (by decide +kernel) (by decide +kernel) dX1_init_17 (fun qk cAk H hKk hP hD hS => ?_)
  obtain ⟨_, _, _, _, _, ek1⟩ := (hKk.2 2 _ rfl).2
  obtain ⟨_, _, _, _, _, ek2⟩ := (hKk.2 1 _ rfl).2
  have eAk : cAk = cT := Option.some.inj (ek1.symm.trans ek2)
  rw [eAk] at hP hD
  have hP : va_P (dC, dI) vwCl [(u0, .inr (1, [.ref w0, .null, .null, .int (nI 0)])), (w0, .inr (0, [.ref w1, .ref w2, .ref w3, .int (nI 0)])), (w1, .inl (cI, 400, .inl (fun _ => nI 0))), (w2, .inl (cI, 400, .inl (fun _ => nI 0))), (w3, .inl (cI, 400, .inl (fun _ => nI 0))), (qk, .inl (cT, 3, .inr (.inr (.inr (.inr (fun _ => none))))))] H := hP
  have hD : va_D A [(u0, .inr (1, [.ref w0, .null, .null, .int (nI 0)])), (w0, .inr (0, [.ref w1, .ref w2, .ref w3, .int (nI 0)])), (w1, .inl (cI, 400, .inl (fun _ => nI 0))), (w2, .inl (cI, 400, .inl (fun _ => nI 0))), (w3, .inl (cI, 400, .inl (fun _ => nI 0))), (qk, .inl (cT, 3, .inr (.inr (.inr (.inr (fun _ => none))))))] := hD
  refine va_putF (D := (dC, dI)) (ci := 1) (v := .ref qk) (ty := .array (.object "RevisionTree$Table")) (C := RX1) (T := TX1) (N := 4) hx hb hts (by decide +kernel) tyX1 tyX1_ok nmX1 hown hK hP hD hS 0 rfl rfl 1 (by decide) (hts (.fieldLink RX1 16 "RevisionTree" "kept" "[LRevisionTree$Table;") (by decide +kernel)) (fun _ h9 => h9) rfl hin rfl (by decide +kernel) rfl rfl (Nat.le_of_ble_eq_true rfl) dX1_init_20 (fun H locs hP hD hS => ?_)
  have hP : va_P (dC, dI) vwCl [(u0, .inr (1, [.ref w0, .ref qk, .null, .int (nI 0)])), (w0, .inr (0, [.ref w1, .ref w2, .ref w3, .int (nI 0)])), (w1, .inl (cI, 400, .inl (fun _ => nI 0))), (w2, .inl (cI, 400, .inl (fun _ => nI 0))), (w3, .inl (cI, 400, .inl (fun _ => nI 0))), (qk, .inl (cT, 3, .inr (.inr (.inr (.inr (fun _ => none))))))] H := hP
  have hD : va_D A [(u0, .inr (1, [.ref w0, .ref qk, .null, .int (nI 0)])), (w0, .inr (0, [.ref w1, .ref w2, .ref w3, .int (nI 0)])), (w1, .inl (cI, 400, .inl (fun _ => nI 0))), (w2, .inl (cI, 400, .inl (fun _ => nI 0))), (w3, .inl (cI, 400, .inl (fun _ => nI 0))), (qk, .inl (cT, 3, .inr (.inr (.inr (.inr (fun _ => none))))))] := hD
  refine lv_iconst (v := nI 0) hx hb dX1_init_23 (by decide) ?_
  refine lv_istore_n (lv' := [(1, .int (nI 0)), (0, .ref u0)]) hx hb dX1_init_24 rfl hl (by decide) rfl (fun ls hl => ?_)
  refine lv_iload_n hx hb dX1_init_25 rfl (lv_at hl 0 rfl) ?_
  refine lv_iconst (v := nI 3) hx hb dX1_init_26 (by decide) ?_
  refine zge (tgt := 49) hx hb dX1_init_27 (by decide) (by omega) (by omega) (fun h_27 => absurd h_27 (by decide)) (fun h_27 => ?_)
  refine lv_aload_n hx hb dX1_init_30 rfl (lv_at hl 1 rfl) ?_
  refine va_get (D := (dC, dI)) (ci := 1) (v := .ref qk) (C := RX1) (T := TX1) (N := 4) hx hb hts (by decide +kernel) hown hK hP 0 rfl rfl 1 (by decide) (hts (.fieldLink RX1 16 "RevisionTree" "kept" "[LRevisionTree$Table;") (by decide +kernel)) (fun _ h9 => h9) rfl dX1_init_31 ?_
  refine lv_iload_n hx hb dX1_init_34 rfl (lv_at hl 0 rfl) ?_
  refine va_new (ci := 0) (fs := [.null, .null, .null, .int (nI 0)]) (C := RX0) (T := TX0) (N := 4) hx hb hts (by decide +kernel) tyX0 tyX0_ok hown (hts (.classLink RX1 7 RX0) (by decide +kernel)) (hts (.instantiable RX0 4) (by decide +kernel)) (hts (.initialized RX0) (by decide +kernel)) hK hP hD hS hA rfl (fun j hj => by rcases (show j = 0 ∨ j = 1 ∨ j = 2 ∨ j = 3 by omega) with rfl | rfl | rfl | rfl <;> rfl) (by decide +kernel) (by decide +kernel) dX1_init_35 (fun a0 H hP hD hS => ?_)
  have hP : va_P (dC, dI) vwCl [(u0, .inr (1, [.ref w0, .ref qk, .null, .int (nI 0)])), (w0, .inr (0, [.ref w1, .ref w2, .ref w3, .int (nI 0)])), (w1, .inl (cI, 400, .inl (fun _ => nI 0))), (w2, .inl (cI, 400, .inl (fun _ => nI 0))), (w3, .inl (cI, 400, .inl (fun _ => nI 0))), (qk, .inl (cT, 3, .inr (.inr (.inr (.inr (fun _ => none)))))), (a0, .inr (0, [.null, .null, .null, .int (nI 0)]))] H := hP
  have hD : va_D A [(u0, .inr (1, [.ref w0, .ref qk, .null, .int (nI 0)])), (w0, .inr (0, [.ref w1, .ref w2, .ref w3, .int (nI 0)])), (w1, .inl (cI, 400, .inl (fun _ => nI 0))), (w2, .inl (cI, 400, .inl (fun _ => nI 0))), (w3, .inl (cI, 400, .inl (fun _ => nI 0))), (qk, .inl (cT, 3, .inr (.inr (.inr (.inr (fun _ => none)))))), (a0, .inr (0, [.null, .null, .null, .int (nI 0)]))] := hD
  refine lv_dup hx hb dX1_init_38 rfl ?_
  have hFc := va_free (wc := [(a0, .inr (0, [.null, .null, .null, .int (nI 0)]))]) hD hS hA [6] rfl
  refine va_callv (va_runIN (As := []) (rest := [.ref a0, .int (nI 0), .ref qk]) ⟨hx, hb, hml, hown, hts⟩ (c_Table_init l dC dI cI cT a0 H.size) ⟨va_cnB 0 hts gX1_init_X0_init_n9 rfl rfl rfl hNw (hts (.initialized RX0) (by decide +kernel)) (by decide +kernel) ⟨Nat.le_of_ble_eq_true rfl, Nat.le_of_ble_eq_true rfl⟩, rfl, (hts (.instanceMethod yX0_init) (by decide +kernel))⟩ (zpreS hK (hP.sub [6] rfl) (hD.sub [6] (by decide) rfl)) rfl rfl hl.1 rfl (lv_room (Nat.le_of_ble_eq_true rfl)) dX1_init_39 ⟨by decide +kernel, by decide +kernel⟩) hS (fun q _ h => hFc q h) hFc (fun u t9 H1 locs ht9 hvm hw hB hz1 hk1 hS => ?_)
  obtain ⟨hP1, hD1⟩ := hB
  rw [ht9] at hP1
  obtain ⟨a1, a2, a3⟩ := u
  obtain ⟨hP, hD⟩ := va_join (wr := [(u0, .inr (1, [.ref w0, .ref qk, .null, .int (nI 0)])), (w0, .inr (0, [.ref w1, .ref w2, .ref w3, .int (nI 0)])), (w1, .inl (cI, 400, .inl (fun _ => nI 0))), (w2, .inl (cI, 400, .inl (fun _ => nI 0))), (w3, .inl (cI, 400, .inl (fun _ => nI 0))), (qk, .inl (cT, 3, .inr (.inr (.inr (.inr (fun _ => none))))))]) (w1 := wT a0 a1 a2 a3 cI (0, (fun _ => nI 0), (fun _ => nI 0), (fun _ => nI 0))) hP hD [6] [0, 1, 2, 3, 4, 5] rfl rfl (by decide) (by decide) hk1 hFc hP1 hD1
  generalize H1 = H at hP hS ⊢
  have hP : va_P (dC, dI) vwCl [(u0, .inr (1, [.ref w0, .ref qk, .null, .int (nI 0)])), (w0, .inr (0, [.ref w1, .ref w2, .ref w3, .int (nI 0)])), (w1, .inl (cI, 400, .inl (fun _ => nI 0))), (w2, .inl (cI, 400, .inl (fun _ => nI 0))), (w3, .inl (cI, 400, .inl (fun _ => nI 0))), (qk, .inl (cT, 3, .inr (.inr (.inr (.inr (fun _ => none)))))), (a0, .inr (0, [.ref a1, .ref a2, .ref a3, .int (nI 0)])), (a1, .inl (cI, 400, .inl (fun _ => nI 0))), (a2, .inl (cI, 400, .inl (fun _ => nI 0))), (a3, .inl (cI, 400, .inl (fun _ => nI 0)))] H := hP
  have hD : va_D A [(u0, .inr (1, [.ref w0, .ref qk, .null, .int (nI 0)])), (w0, .inr (0, [.ref w1, .ref w2, .ref w3, .int (nI 0)])), (w1, .inl (cI, 400, .inl (fun _ => nI 0))), (w2, .inl (cI, 400, .inl (fun _ => nI 0))), (w3, .inl (cI, 400, .inl (fun _ => nI 0))), (qk, .inl (cT, 3, .inr (.inr (.inr (.inr (fun _ => none)))))), (a0, .inr (0, [.ref a1, .ref a2, .ref a3, .int (nI 0)])), (a1, .inl (cI, 400, .inl (fun _ => nI 0))), (a2, .inl (cI, 400, .inl (fun _ => nI 0))), (a3, .inl (cI, 400, .inl (fun _ => nI 0)))] := hD
  refine va_astq hx hb hK hP hD hS 5 1 6 0 rfl rfl rfl rfl (vp_in_nI (show 0 < 3 by decide) (by decide)) dX1_init_42 (fun H locs hP hD hS => ?_)
  rw [show (nI 0).toNatClampNeg = 0 from nI_clamp (by decide)] at hP hD
  have hP : va_P (dC, dI) vwCl [(u0, .inr (1, [.ref w0, .ref qk, .null, .int (nI 0)])), (w0, .inr (0, [.ref w1, .ref w2, .ref w3, .int (nI 0)])), (w1, .inl (cI, 400, .inl (fun _ => nI 0))), (w2, .inl (cI, 400, .inl (fun _ => nI 0))), (w3, .inl (cI, 400, .inl (fun _ => nI 0))), (qk, .inl (cT, 3, .inr (.inr (.inr (.inr (va_up (fun _ => none) 0 (some a0))))))), (a0, .inr (0, [.ref a1, .ref a2, .ref a3, .int (nI 0)])), (a1, .inl (cI, 400, .inl (fun _ => nI 0))), (a2, .inl (cI, 400, .inl (fun _ => nI 0))), (a3, .inl (cI, 400, .inl (fun _ => nI 0)))] H := hP
  have hD : va_D A [(u0, .inr (1, [.ref w0, .ref qk, .null, .int (nI 0)])), (w0, .inr (0, [.ref w1, .ref w2, .ref w3, .int (nI 0)])), (w1, .inl (cI, 400, .inl (fun _ => nI 0))), (w2, .inl (cI, 400, .inl (fun _ => nI 0))), (w3, .inl (cI, 400, .inl (fun _ => nI 0))), (qk, .inl (cT, 3, .inr (.inr (.inr (.inr (va_up (fun _ => none) 0 (some a0))))))), (a0, .inr (0, [.ref a1, .ref a2, .ref a3, .int (nI 0)])), (a1, .inl (cI, 400, .inl (fun _ => nI 0))), (a2, .inl (cI, 400, .inl (fun _ => nI 0))), (a3, .inl (cI, 400, .inl (fun _ => nI 0)))] := hD
  refine lv_iinc (v := nI 1) (lv' := [(1, .int (nI 1)), (0, .ref u0)]) hx hb dX1_init_43 hl (k := 0) rfl (zinc _) (by decide) rfl (fun ls hl => ?_)
  refine lv_goto (tgt := 25) hx hb dX1_init_46 (by decide) ?_
  refine lv_iload_n hx hb dX1_init_25 rfl (lv_at hl 0 rfl) ?_
  refine lv_iconst (v := nI 3) hx hb dX1_init_26 (by decide) ?_
  refine zge (tgt := 49) hx hb dX1_init_27 (by decide) (by omega) (by omega) (fun h_27 => absurd h_27 (by decide)) (fun h_27 => ?_)
  refine lv_aload_n hx hb dX1_init_30 rfl (lv_at hl 1 rfl) ?_
  refine va_get (D := (dC, dI)) (ci := 1) (v := .ref qk) (C := RX1) (T := TX1) (N := 4) hx hb hts (by decide +kernel) hown hK hP 0 rfl rfl 1 (by decide) (hts (.fieldLink RX1 16 "RevisionTree" "kept" "[LRevisionTree$Table;") (by decide +kernel)) (fun _ h9 => h9) rfl dX1_init_31 ?_
  refine lv_iload_n hx hb dX1_init_34 rfl (lv_at hl 0 rfl) ?_
  refine va_new (ci := 0) (fs := [.null, .null, .null, .int (nI 0)]) (C := RX0) (T := TX0) (N := 4) hx hb hts (by decide +kernel) tyX0 tyX0_ok hown (hts (.classLink RX1 7 RX0) (by decide +kernel)) (hts (.instantiable RX0 4) (by decide +kernel)) (hts (.initialized RX0) (by decide +kernel)) hK hP hD hS hA rfl (fun j hj => by rcases (show j = 0 ∨ j = 1 ∨ j = 2 ∨ j = 3 by omega) with rfl | rfl | rfl | rfl <;> rfl) (by decide +kernel) (by decide +kernel) dX1_init_35 (fun b0 H hP hD hS => ?_)
  have hP : va_P (dC, dI) vwCl [(u0, .inr (1, [.ref w0, .ref qk, .null, .int (nI 0)])), (w0, .inr (0, [.ref w1, .ref w2, .ref w3, .int (nI 0)])), (w1, .inl (cI, 400, .inl (fun _ => nI 0))), (w2, .inl (cI, 400, .inl (fun _ => nI 0))), (w3, .inl (cI, 400, .inl (fun _ => nI 0))), (qk, .inl (cT, 3, .inr (.inr (.inr (.inr (va_up (fun _ => none) 0 (some a0))))))), (a0, .inr (0, [.ref a1, .ref a2, .ref a3, .int (nI 0)])), (a1, .inl (cI, 400, .inl (fun _ => nI 0))), (a2, .inl (cI, 400, .inl (fun _ => nI 0))), (a3, .inl (cI, 400, .inl (fun _ => nI 0))), (b0, .inr (0, [.null, .null, .null, .int (nI 0)]))] H := hP
  have hD : va_D A [(u0, .inr (1, [.ref w0, .ref qk, .null, .int (nI 0)])), (w0, .inr (0, [.ref w1, .ref w2, .ref w3, .int (nI 0)])), (w1, .inl (cI, 400, .inl (fun _ => nI 0))), (w2, .inl (cI, 400, .inl (fun _ => nI 0))), (w3, .inl (cI, 400, .inl (fun _ => nI 0))), (qk, .inl (cT, 3, .inr (.inr (.inr (.inr (va_up (fun _ => none) 0 (some a0))))))), (a0, .inr (0, [.ref a1, .ref a2, .ref a3, .int (nI 0)])), (a1, .inl (cI, 400, .inl (fun _ => nI 0))), (a2, .inl (cI, 400, .inl (fun _ => nI 0))), (a3, .inl (cI, 400, .inl (fun _ => nI 0))), (b0, .inr (0, [.null, .null, .null, .int (nI 0)]))] := hD
  refine lv_dup hx hb dX1_init_38 rfl ?_
  have hFc := va_free (wc := [(b0, .inr (0, [.null, .null, .null, .int (nI 0)]))]) hD hS hA [10] rfl
  refine va_callv (va_runIN (As := []) (rest := [.ref b0, .int (nI 1), .ref qk]) ⟨hx, hb, hml, hown, hts⟩ (c_Table_init l dC dI cI cT b0 H.size) ⟨va_cnB 0 hts gX1_init_X0_init_n9 rfl rfl rfl hNw (hts (.initialized RX0) (by decide +kernel)) (by decide +kernel) ⟨Nat.le_of_ble_eq_true rfl, Nat.le_of_ble_eq_true rfl⟩, rfl, (hts (.instanceMethod yX0_init) (by decide +kernel))⟩ (zpreS hK (hP.sub [10] rfl) (hD.sub [10] (by decide) rfl)) rfl rfl hl.1 rfl (lv_room (Nat.le_of_ble_eq_true rfl)) dX1_init_39 ⟨by decide +kernel, by decide +kernel⟩) hS (fun q _ h => hFc q h) hFc (fun u t9 H1 locs ht9 hvm hw hB hz1 hk1 hS => ?_)
  obtain ⟨hP1, hD1⟩ := hB
  rw [ht9] at hP1
  obtain ⟨b1, b2, b3⟩ := u
  obtain ⟨hP, hD⟩ := va_join (wr := [(u0, .inr (1, [.ref w0, .ref qk, .null, .int (nI 0)])), (w0, .inr (0, [.ref w1, .ref w2, .ref w3, .int (nI 0)])), (w1, .inl (cI, 400, .inl (fun _ => nI 0))), (w2, .inl (cI, 400, .inl (fun _ => nI 0))), (w3, .inl (cI, 400, .inl (fun _ => nI 0))), (qk, .inl (cT, 3, .inr (.inr (.inr (.inr (va_up (fun _ => none) 0 (some a0))))))), (a0, .inr (0, [.ref a1, .ref a2, .ref a3, .int (nI 0)])), (a1, .inl (cI, 400, .inl (fun _ => nI 0))), (a2, .inl (cI, 400, .inl (fun _ => nI 0))), (a3, .inl (cI, 400, .inl (fun _ => nI 0)))]) (w1 := wT b0 b1 b2 b3 cI (0, (fun _ => nI 0), (fun _ => nI 0), (fun _ => nI 0))) hP hD [10] [0, 1, 2, 3, 4, 5, 6, 7, 8, 9] rfl rfl (by decide) (by decide) hk1 hFc hP1 hD1
  generalize H1 = H at hP hS ⊢
  have hP : va_P (dC, dI) vwCl [(u0, .inr (1, [.ref w0, .ref qk, .null, .int (nI 0)])), (w0, .inr (0, [.ref w1, .ref w2, .ref w3, .int (nI 0)])), (w1, .inl (cI, 400, .inl (fun _ => nI 0))), (w2, .inl (cI, 400, .inl (fun _ => nI 0))), (w3, .inl (cI, 400, .inl (fun _ => nI 0))), (qk, .inl (cT, 3, .inr (.inr (.inr (.inr (va_up (fun _ => none) 0 (some a0))))))), (a0, .inr (0, [.ref a1, .ref a2, .ref a3, .int (nI 0)])), (a1, .inl (cI, 400, .inl (fun _ => nI 0))), (a2, .inl (cI, 400, .inl (fun _ => nI 0))), (a3, .inl (cI, 400, .inl (fun _ => nI 0))), (b0, .inr (0, [.ref b1, .ref b2, .ref b3, .int (nI 0)])), (b1, .inl (cI, 400, .inl (fun _ => nI 0))), (b2, .inl (cI, 400, .inl (fun _ => nI 0))), (b3, .inl (cI, 400, .inl (fun _ => nI 0)))] H := hP
  have hD : va_D A [(u0, .inr (1, [.ref w0, .ref qk, .null, .int (nI 0)])), (w0, .inr (0, [.ref w1, .ref w2, .ref w3, .int (nI 0)])), (w1, .inl (cI, 400, .inl (fun _ => nI 0))), (w2, .inl (cI, 400, .inl (fun _ => nI 0))), (w3, .inl (cI, 400, .inl (fun _ => nI 0))), (qk, .inl (cT, 3, .inr (.inr (.inr (.inr (va_up (fun _ => none) 0 (some a0))))))), (a0, .inr (0, [.ref a1, .ref a2, .ref a3, .int (nI 0)])), (a1, .inl (cI, 400, .inl (fun _ => nI 0))), (a2, .inl (cI, 400, .inl (fun _ => nI 0))), (a3, .inl (cI, 400, .inl (fun _ => nI 0))), (b0, .inr (0, [.ref b1, .ref b2, .ref b3, .int (nI 0)])), (b1, .inl (cI, 400, .inl (fun _ => nI 0))), (b2, .inl (cI, 400, .inl (fun _ => nI 0))), (b3, .inl (cI, 400, .inl (fun _ => nI 0)))] := hD
  refine va_astq hx hb hK hP hD hS 5 1 10 0 rfl rfl rfl rfl (vp_in_nI (show 1 < 3 by decide) (by decide)) dX1_init_42 (fun H locs hP hD hS => ?_)
  rw [show (nI 1).toNatClampNeg = 1 from nI_clamp (by decide)] at hP hD
  have hP : va_P (dC, dI) vwCl [(u0, .inr (1, [.ref w0, .ref qk, .null, .int (nI 0)])), (w0, .inr (0, [.ref w1, .ref w2, .ref w3, .int (nI 0)])), (w1, .inl (cI, 400, .inl (fun _ => nI 0))), (w2, .inl (cI, 400, .inl (fun _ => nI 0))), (w3, .inl (cI, 400, .inl (fun _ => nI 0))), (qk, .inl (cT, 3, .inr (.inr (.inr (.inr (va_up (va_up (fun _ => none) 0 (some a0)) 1 (some b0))))))), (a0, .inr (0, [.ref a1, .ref a2, .ref a3, .int (nI 0)])), (a1, .inl (cI, 400, .inl (fun _ => nI 0))), (a2, .inl (cI, 400, .inl (fun _ => nI 0))), (a3, .inl (cI, 400, .inl (fun _ => nI 0))), (b0, .inr (0, [.ref b1, .ref b2, .ref b3, .int (nI 0)])), (b1, .inl (cI, 400, .inl (fun _ => nI 0))), (b2, .inl (cI, 400, .inl (fun _ => nI 0))), (b3, .inl (cI, 400, .inl (fun _ => nI 0)))] H := hP
  have hD : va_D A [(u0, .inr (1, [.ref w0, .ref qk, .null, .int (nI 0)])), (w0, .inr (0, [.ref w1, .ref w2, .ref w3, .int (nI 0)])), (w1, .inl (cI, 400, .inl (fun _ => nI 0))), (w2, .inl (cI, 400, .inl (fun _ => nI 0))), (w3, .inl (cI, 400, .inl (fun _ => nI 0))), (qk, .inl (cT, 3, .inr (.inr (.inr (.inr (va_up (va_up (fun _ => none) 0 (some a0)) 1 (some b0))))))), (a0, .inr (0, [.ref a1, .ref a2, .ref a3, .int (nI 0)])), (a1, .inl (cI, 400, .inl (fun _ => nI 0))), (a2, .inl (cI, 400, .inl (fun _ => nI 0))), (a3, .inl (cI, 400, .inl (fun _ => nI 0))), (b0, .inr (0, [.ref b1, .ref b2, .ref b3, .int (nI 0)])), (b1, .inl (cI, 400, .inl (fun _ => nI 0))), (b2, .inl (cI, 400, .inl (fun _ => nI 0))), (b3, .inl (cI, 400, .inl (fun _ => nI 0)))] := hD
  refine lv_iinc (v := nI 2) (lv' := [(1, .int (nI 2)), (0, .ref u0)]) hx hb dX1_init_43 hl (k := 0) rfl (zinc _) (by decide) rfl (fun ls hl => ?_)
  refine lv_goto (tgt := 25) hx hb dX1_init_46 (by decide) ?_
  refine lv_iload_n hx hb dX1_init_25 rfl (lv_at hl 0 rfl) ?_
  refine lv_iconst (v := nI 3) hx hb dX1_init_26 (by decide) ?_
  refine zge (tgt := 49) hx hb dX1_init_27 (by decide) (by omega) (by omega) (fun h_27 => absurd h_27 (by decide)) (fun h_27 => ?_)
  refine lv_aload_n hx hb dX1_init_30 rfl (lv_at hl 1 rfl) ?_
  refine va_get (D := (dC, dI)) (ci := 1) (v := .ref qk) (C := RX1) (T := TX1) (N := 4) hx hb hts (by decide +kernel) hown hK hP 0 rfl rfl 1 (by decide) (hts (.fieldLink RX1 16 "RevisionTree" "kept" "[LRevisionTree$Table;") (by decide +kernel)) (fun _ h9 => h9) rfl dX1_init_31 ?_
  refine lv_iload_n hx hb dX1_init_34 rfl (lv_at hl 0 rfl) ?_
  refine va_new (ci := 0) (fs := [.null, .null, .null, .int (nI 0)]) (C := RX0) (T := TX0) (N := 4) hx hb hts (by decide +kernel) tyX0 tyX0_ok hown (hts (.classLink RX1 7 RX0) (by decide +kernel)) (hts (.instantiable RX0 4) (by decide +kernel)) (hts (.initialized RX0) (by decide +kernel)) hK hP hD hS hA rfl (fun j hj => by rcases (show j = 0 ∨ j = 1 ∨ j = 2 ∨ j = 3 by omega) with rfl | rfl | rfl | rfl <;> rfl) (by decide +kernel) (by decide +kernel) dX1_init_35 (fun c0 H hP hD hS => ?_)
  have hP : va_P (dC, dI) vwCl [(u0, .inr (1, [.ref w0, .ref qk, .null, .int (nI 0)])), (w0, .inr (0, [.ref w1, .ref w2, .ref w3, .int (nI 0)])), (w1, .inl (cI, 400, .inl (fun _ => nI 0))), (w2, .inl (cI, 400, .inl (fun _ => nI 0))), (w3, .inl (cI, 400, .inl (fun _ => nI 0))), (qk, .inl (cT, 3, .inr (.inr (.inr (.inr (va_up (va_up (fun _ => none) 0 (some a0)) 1 (some b0))))))), (a0, .inr (0, [.ref a1, .ref a2, .ref a3, .int (nI 0)])), (a1, .inl (cI, 400, .inl (fun _ => nI 0))), (a2, .inl (cI, 400, .inl (fun _ => nI 0))), (a3, .inl (cI, 400, .inl (fun _ => nI 0))), (b0, .inr (0, [.ref b1, .ref b2, .ref b3, .int (nI 0)])), (b1, .inl (cI, 400, .inl (fun _ => nI 0))), (b2, .inl (cI, 400, .inl (fun _ => nI 0))), (b3, .inl (cI, 400, .inl (fun _ => nI 0))), (c0, .inr (0, [.null, .null, .null, .int (nI 0)]))] H := hP
  have hD : va_D A [(u0, .inr (1, [.ref w0, .ref qk, .null, .int (nI 0)])), (w0, .inr (0, [.ref w1, .ref w2, .ref w3, .int (nI 0)])), (w1, .inl (cI, 400, .inl (fun _ => nI 0))), (w2, .inl (cI, 400, .inl (fun _ => nI 0))), (w3, .inl (cI, 400, .inl (fun _ => nI 0))), (qk, .inl (cT, 3, .inr (.inr (.inr (.inr (va_up (va_up (fun _ => none) 0 (some a0)) 1 (some b0))))))), (a0, .inr (0, [.ref a1, .ref a2, .ref a3, .int (nI 0)])), (a1, .inl (cI, 400, .inl (fun _ => nI 0))), (a2, .inl (cI, 400, .inl (fun _ => nI 0))), (a3, .inl (cI, 400, .inl (fun _ => nI 0))), (b0, .inr (0, [.ref b1, .ref b2, .ref b3, .int (nI 0)])), (b1, .inl (cI, 400, .inl (fun _ => nI 0))), (b2, .inl (cI, 400, .inl (fun _ => nI 0))), (b3, .inl (cI, 400, .inl (fun _ => nI 0))), (c0, .inr (0, [.null, .null, .null, .int (nI 0)]))] := hD
  refine lv_dup hx hb dX1_init_38 rfl ?_
  have hFc := va_free (wc := [(c0, .inr (0, [.null, .null, .null, .int (nI 0)]))]) hD hS hA [14] rfl
  refine va_callv (va_runIN (As := []) (rest := [.ref c0, .int (nI 2), .ref qk]) ⟨hx, hb, hml, hown, hts⟩ (c_Table_init l dC dI cI cT c0 H.size) ⟨va_cnB 0 hts gX1_init_X0_init_n9 rfl rfl rfl hNw (hts (.initialized RX0) (by decide +kernel)) (by decide +kernel) ⟨Nat.le_of_ble_eq_true rfl, Nat.le_of_ble_eq_true rfl⟩, rfl, (hts (.instanceMethod yX0_init) (by decide +kernel))⟩ (zpreS hK (hP.sub [14] rfl) (hD.sub [14] (by decide) rfl)) rfl rfl hl.1 rfl (lv_room (Nat.le_of_ble_eq_true rfl)) dX1_init_39 ⟨by decide +kernel, by decide +kernel⟩) hS (fun q _ h => hFc q h) hFc (fun u t9 H1 locs ht9 hvm hw hB hz1 hk1 hS => ?_)
  obtain ⟨hP1, hD1⟩ := hB
  rw [ht9] at hP1
  obtain ⟨c1, c2, c3⟩ := u
  obtain ⟨hP, hD⟩ := va_join (wr := [(u0, .inr (1, [.ref w0, .ref qk, .null, .int (nI 0)])), (w0, .inr (0, [.ref w1, .ref w2, .ref w3, .int (nI 0)])), (w1, .inl (cI, 400, .inl (fun _ => nI 0))), (w2, .inl (cI, 400, .inl (fun _ => nI 0))), (w3, .inl (cI, 400, .inl (fun _ => nI 0))), (qk, .inl (cT, 3, .inr (.inr (.inr (.inr (va_up (va_up (fun _ => none) 0 (some a0)) 1 (some b0))))))), (a0, .inr (0, [.ref a1, .ref a2, .ref a3, .int (nI 0)])), (a1, .inl (cI, 400, .inl (fun _ => nI 0))), (a2, .inl (cI, 400, .inl (fun _ => nI 0))), (a3, .inl (cI, 400, .inl (fun _ => nI 0))), (b0, .inr (0, [.ref b1, .ref b2, .ref b3, .int (nI 0)])), (b1, .inl (cI, 400, .inl (fun _ => nI 0))), (b2, .inl (cI, 400, .inl (fun _ => nI 0))), (b3, .inl (cI, 400, .inl (fun _ => nI 0)))]) (w1 := wT c0 c1 c2 c3 cI (0, (fun _ => nI 0), (fun _ => nI 0), (fun _ => nI 0))) hP hD [14] [0, 1, 2, 3, 4, 5, 6, 7, 8, 9, 10, 11, 12, 13] rfl rfl (by decide) (by decide) hk1 hFc hP1 hD1
  generalize H1 = H at hP hS ⊢
  have hP : va_P (dC, dI) vwCl [(u0, .inr (1, [.ref w0, .ref qk, .null, .int (nI 0)])), (w0, .inr (0, [.ref w1, .ref w2, .ref w3, .int (nI 0)])), (w1, .inl (cI, 400, .inl (fun _ => nI 0))), (w2, .inl (cI, 400, .inl (fun _ => nI 0))), (w3, .inl (cI, 400, .inl (fun _ => nI 0))), (qk, .inl (cT, 3, .inr (.inr (.inr (.inr (va_up (va_up (fun _ => none) 0 (some a0)) 1 (some b0))))))), (a0, .inr (0, [.ref a1, .ref a2, .ref a3, .int (nI 0)])), (a1, .inl (cI, 400, .inl (fun _ => nI 0))), (a2, .inl (cI, 400, .inl (fun _ => nI 0))), (a3, .inl (cI, 400, .inl (fun _ => nI 0))), (b0, .inr (0, [.ref b1, .ref b2, .ref b3, .int (nI 0)])), (b1, .inl (cI, 400, .inl (fun _ => nI 0))), (b2, .inl (cI, 400, .inl (fun _ => nI 0))), (b3, .inl (cI, 400, .inl (fun _ => nI 0))), (c0, .inr (0, [.ref c1, .ref c2, .ref c3, .int (nI 0)])), (c1, .inl (cI, 400, .inl (fun _ => nI 0))), (c2, .inl (cI, 400, .inl (fun _ => nI 0))), (c3, .inl (cI, 400, .inl (fun _ => nI 0)))] H := hP
  have hD : va_D A [(u0, .inr (1, [.ref w0, .ref qk, .null, .int (nI 0)])), (w0, .inr (0, [.ref w1, .ref w2, .ref w3, .int (nI 0)])), (w1, .inl (cI, 400, .inl (fun _ => nI 0))), (w2, .inl (cI, 400, .inl (fun _ => nI 0))), (w3, .inl (cI, 400, .inl (fun _ => nI 0))), (qk, .inl (cT, 3, .inr (.inr (.inr (.inr (va_up (va_up (fun _ => none) 0 (some a0)) 1 (some b0))))))), (a0, .inr (0, [.ref a1, .ref a2, .ref a3, .int (nI 0)])), (a1, .inl (cI, 400, .inl (fun _ => nI 0))), (a2, .inl (cI, 400, .inl (fun _ => nI 0))), (a3, .inl (cI, 400, .inl (fun _ => nI 0))), (b0, .inr (0, [.ref b1, .ref b2, .ref b3, .int (nI 0)])), (b1, .inl (cI, 400, .inl (fun _ => nI 0))), (b2, .inl (cI, 400, .inl (fun _ => nI 0))), (b3, .inl (cI, 400, .inl (fun _ => nI 0))), (c0, .inr (0, [.ref c1, .ref c2, .ref c3, .int (nI 0)])), (c1, .inl (cI, 400, .inl (fun _ => nI 0))), (c2, .inl (cI, 400, .inl (fun _ => nI 0))), (c3, .inl (cI, 400, .inl (fun _ => nI 0)))] := hD
  refine va_astq hx hb hK hP hD hS 5 1 14 0 rfl rfl rfl rfl (vp_in_nI (show 2 < 3 by decide) (by decide)) dX1_init_42 (fun H locs hP hD hS => ?_)
  rw [show (nI 2).toNatClampNeg = 2 from nI_clamp (by decide)] at hP hD
  have hP : va_P (dC, dI) vwCl [(u0, .inr (1, [.ref w0, .ref qk, .null, .int (nI 0)])), (w0, .inr (0, [.ref w1, .ref w2, .ref w3, .int (nI 0)])), (w1, .inl (cI, 400, .inl (fun _ => nI 0))), (w2, .inl (cI, 400, .inl (fun _ => nI 0))), (w3, .inl (cI, 400, .inl (fun _ => nI 0))), (qk, .inl (cT, 3, .inr (.inr (.inr (.inr (va_up (va_up (va_up (fun _ => none) 0 (some a0)) 1 (some b0)) 2 (some c0))))))), (a0, .inr (0, [.ref a1, .ref a2, .ref a3, .int (nI 0)])), (a1, .inl (cI, 400, .inl (fun _ => nI 0))), (a2, .inl (cI, 400, .inl (fun _ => nI 0))), (a3, .inl (cI, 400, .inl (fun _ => nI 0))), (b0, .inr (0, [.ref b1, .ref b2, .ref b3, .int (nI 0)])), (b1, .inl (cI, 400, .inl (fun _ => nI 0))), (b2, .inl (cI, 400, .inl (fun _ => nI 0))), (b3, .inl (cI, 400, .inl (fun _ => nI 0))), (c0, .inr (0, [.ref c1, .ref c2, .ref c3, .int (nI 0)])), (c1, .inl (cI, 400, .inl (fun _ => nI 0))), (c2, .inl (cI, 400, .inl (fun _ => nI 0))), (c3, .inl (cI, 400, .inl (fun _ => nI 0)))] H := hP
  have hD : va_D A [(u0, .inr (1, [.ref w0, .ref qk, .null, .int (nI 0)])), (w0, .inr (0, [.ref w1, .ref w2, .ref w3, .int (nI 0)])), (w1, .inl (cI, 400, .inl (fun _ => nI 0))), (w2, .inl (cI, 400, .inl (fun _ => nI 0))), (w3, .inl (cI, 400, .inl (fun _ => nI 0))), (qk, .inl (cT, 3, .inr (.inr (.inr (.inr (va_up (va_up (va_up (fun _ => none) 0 (some a0)) 1 (some b0)) 2 (some c0))))))), (a0, .inr (0, [.ref a1, .ref a2, .ref a3, .int (nI 0)])), (a1, .inl (cI, 400, .inl (fun _ => nI 0))), (a2, .inl (cI, 400, .inl (fun _ => nI 0))), (a3, .inl (cI, 400, .inl (fun _ => nI 0))), (b0, .inr (0, [.ref b1, .ref b2, .ref b3, .int (nI 0)])), (b1, .inl (cI, 400, .inl (fun _ => nI 0))), (b2, .inl (cI, 400, .inl (fun _ => nI 0))), (b3, .inl (cI, 400, .inl (fun _ => nI 0))), (c0, .inr (0, [.ref c1, .ref c2, .ref c3, .int (nI 0)])), (c1, .inl (cI, 400, .inl (fun _ => nI 0))), (c2, .inl (cI, 400, .inl (fun _ => nI 0))), (c3, .inl (cI, 400, .inl (fun _ => nI 0)))] := hD
  refine lv_iinc (v := nI 3) (lv' := [(1, .int (nI 3)), (0, .ref u0)]) hx hb dX1_init_43 hl (k := 0) rfl (zinc _) (by decide) rfl (fun ls hl => ?_)
  refine lv_goto (tgt := 25) hx hb dX1_init_46 (by decide) ?_
  refine lv_iload_n hx hb dX1_init_25 rfl (lv_at hl 0 rfl) ?_
  refine lv_iconst (v := nI 3) hx hb dX1_init_26 (by decide) ?_
  refine zge (tgt := 49) hx hb dX1_init_27 (by decide) (by omega) (by omega) (fun h_27 => ?_) (fun h_27 => absurd h_27 (by decide))
  refine lv_aload_n hx hb dX1_init_49 rfl (lv_at hl 1 rfl) ?_
  refine lv_iconst (v := nI 4) hx hb dX1_init_50 (by decide) ?_
  refine va_newa (atype := .int) hx hb (hts (.arrayClass .int) (by decide +kernel)) (ty := .int) rfl hK hP hD hS hA (N' := 4) (a0 := (4, .inl (fun _ => nI 0))) (z0c _) (nI_pos (by decide +kernel)) (nI_clamp (by decide +kernel)) (by decide +kernel) (by decide +kernel) (by decide +kernel) dX1_init_51 (fun q9 cA9 H hK9 hP hD hS => ?_)
  have eA9 : cA9 = cI := Option.some.inj ((show s.vm.findClass _ = some cA9 from (hK9.2 2 _ rfl).2).symm.trans (show s.vm.findClass _ = some cI from (hK9.2 0 _ rfl).2))
  rw [eA9] at hP hD
  have hP : va_P (dC, dI) vwCl [(u0, .inr (1, [.ref w0, .ref qk, .null, .int (nI 0)])), (w0, .inr (0, [.ref w1, .ref w2, .ref w3, .int (nI 0)])), (w1, .inl (cI, 400, .inl (fun _ => nI 0))), (w2, .inl (cI, 400, .inl (fun _ => nI 0))), (w3, .inl (cI, 400, .inl (fun _ => nI 0))), (qk, .inl (cT, 3, .inr (.inr (.inr (.inr (va_up (va_up (va_up (fun _ => none) 0 (some a0)) 1 (some b0)) 2 (some c0))))))), (a0, .inr (0, [.ref a1, .ref a2, .ref a3, .int (nI 0)])), (a1, .inl (cI, 400, .inl (fun _ => nI 0))), (a2, .inl (cI, 400, .inl (fun _ => nI 0))), (a3, .inl (cI, 400, .inl (fun _ => nI 0))), (b0, .inr (0, [.ref b1, .ref b2, .ref b3, .int (nI 0)])), (b1, .inl (cI, 400, .inl (fun _ => nI 0))), (b2, .inl (cI, 400, .inl (fun _ => nI 0))), (b3, .inl (cI, 400, .inl (fun _ => nI 0))), (c0, .inr (0, [.ref c1, .ref c2, .ref c3, .int (nI 0)])), (c1, .inl (cI, 400, .inl (fun _ => nI 0))), (c2, .inl (cI, 400, .inl (fun _ => nI 0))), (c3, .inl (cI, 400, .inl (fun _ => nI 0))), (q9, .inl (cI, 4, .inl (fun _ => nI 0)))] H := hP
  have hD : va_D A [(u0, .inr (1, [.ref w0, .ref qk, .null, .int (nI 0)])), (w0, .inr (0, [.ref w1, .ref w2, .ref w3, .int (nI 0)])), (w1, .inl (cI, 400, .inl (fun _ => nI 0))), (w2, .inl (cI, 400, .inl (fun _ => nI 0))), (w3, .inl (cI, 400, .inl (fun _ => nI 0))), (qk, .inl (cT, 3, .inr (.inr (.inr (.inr (va_up (va_up (va_up (fun _ => none) 0 (some a0)) 1 (some b0)) 2 (some c0))))))), (a0, .inr (0, [.ref a1, .ref a2, .ref a3, .int (nI 0)])), (a1, .inl (cI, 400, .inl (fun _ => nI 0))), (a2, .inl (cI, 400, .inl (fun _ => nI 0))), (a3, .inl (cI, 400, .inl (fun _ => nI 0))), (b0, .inr (0, [.ref b1, .ref b2, .ref b3, .int (nI 0)])), (b1, .inl (cI, 400, .inl (fun _ => nI 0))), (b2, .inl (cI, 400, .inl (fun _ => nI 0))), (b3, .inl (cI, 400, .inl (fun _ => nI 0))), (c0, .inr (0, [.ref c1, .ref c2, .ref c3, .int (nI 0)])), (c1, .inl (cI, 400, .inl (fun _ => nI 0))), (c2, .inl (cI, 400, .inl (fun _ => nI 0))), (c3, .inl (cI, 400, .inl (fun _ => nI 0))), (q9, .inl (cI, 4, .inl (fun _ => nI 0)))] := hD
  refine va_putF (D := (dC, dI)) (ci := 1) (v := .ref q9) (ty := .array .int) (C := RX1) (T := TX1) (N := 4) hx hb hts (by decide +kernel) tyX1 tyX1_ok nmX1 hown hK hP hD hS 0 rfl rfl 2 (by decide) (hts (.fieldLink RX1 20 "RevisionTree" "revisionOfReader" "[I") (by decide +kernel)) (fun _ h9 => h9) rfl hin rfl (by decide +kernel) rfl rfl (Nat.le_of_ble_eq_true rfl) dX1_init_53 (fun H locs hP hD hS => ?_)
  have hP : va_P (dC, dI) vwCl [(u0, .inr (1, [.ref w0, .ref qk, .ref q9, .int (nI 0)])), (w0, .inr (0, [.ref w1, .ref w2, .ref w3, .int (nI 0)])), (w1, .inl (cI, 400, .inl (fun _ => nI 0))), (w2, .inl (cI, 400, .inl (fun _ => nI 0))), (w3, .inl (cI, 400, .inl (fun _ => nI 0))), (qk, .inl (cT, 3, .inr (.inr (.inr (.inr (va_up (va_up (va_up (fun _ => none) 0 (some a0)) 1 (some b0)) 2 (some c0))))))), (a0, .inr (0, [.ref a1, .ref a2, .ref a3, .int (nI 0)])), (a1, .inl (cI, 400, .inl (fun _ => nI 0))), (a2, .inl (cI, 400, .inl (fun _ => nI 0))), (a3, .inl (cI, 400, .inl (fun _ => nI 0))), (b0, .inr (0, [.ref b1, .ref b2, .ref b3, .int (nI 0)])), (b1, .inl (cI, 400, .inl (fun _ => nI 0))), (b2, .inl (cI, 400, .inl (fun _ => nI 0))), (b3, .inl (cI, 400, .inl (fun _ => nI 0))), (c0, .inr (0, [.ref c1, .ref c2, .ref c3, .int (nI 0)])), (c1, .inl (cI, 400, .inl (fun _ => nI 0))), (c2, .inl (cI, 400, .inl (fun _ => nI 0))), (c3, .inl (cI, 400, .inl (fun _ => nI 0))), (q9, .inl (cI, 4, .inl (fun _ => nI 0)))] H := hP
  have hD : va_D A [(u0, .inr (1, [.ref w0, .ref qk, .ref q9, .int (nI 0)])), (w0, .inr (0, [.ref w1, .ref w2, .ref w3, .int (nI 0)])), (w1, .inl (cI, 400, .inl (fun _ => nI 0))), (w2, .inl (cI, 400, .inl (fun _ => nI 0))), (w3, .inl (cI, 400, .inl (fun _ => nI 0))), (qk, .inl (cT, 3, .inr (.inr (.inr (.inr (va_up (va_up (va_up (fun _ => none) 0 (some a0)) 1 (some b0)) 2 (some c0))))))), (a0, .inr (0, [.ref a1, .ref a2, .ref a3, .int (nI 0)])), (a1, .inl (cI, 400, .inl (fun _ => nI 0))), (a2, .inl (cI, 400, .inl (fun _ => nI 0))), (a3, .inl (cI, 400, .inl (fun _ => nI 0))), (b0, .inr (0, [.ref b1, .ref b2, .ref b3, .int (nI 0)])), (b1, .inl (cI, 400, .inl (fun _ => nI 0))), (b2, .inl (cI, 400, .inl (fun _ => nI 0))), (b3, .inl (cI, 400, .inl (fun _ => nI 0))), (c0, .inr (0, [.ref c1, .ref c2, .ref c3, .int (nI 0)])), (c1, .inl (cI, 400, .inl (fun _ => nI 0))), (c2, .inl (cI, 400, .inl (fun _ => nI 0))), (c3, .inl (cI, 400, .inl (fun _ => nI 0))), (q9, .inl (cI, 4, .inl (fun _ => nI 0)))] := hD
  refine lv_aload_n hx hb dX1_init_56 rfl (lv_at hl 1 rfl) ?_
  refine lv_iconst (v := nI 0) hx hb dX1_init_57 (by decide) ?_
  refine va_put (D := (dC, dI)) (ci := 1) (v := .int (nI 0)) (ty := .int) (C := RX1) (T := TX1) (N := 4) hx hb hts (by decide +kernel) tyX1 tyX1_ok nmX1 hown hK hP hD hS 0 rfl rfl 3 (by decide) (hts (.fieldLink RX1 24 "RevisionTree" "latest" "I") (by decide +kernel)) (fun _ h9 => h9) rfl (by decide +kernel) rfl rfl (Nat.le_of_ble_eq_true rfl) dX1_init_58 (fun H locs hP hD hS => ?_)
  have hP : va_P (dC, dI) vwCl [(u0, .inr (1, [.ref w0, .ref qk, .ref q9, .int (nI 0)])), (w0, .inr (0, [.ref w1, .ref w2, .ref w3, .int (nI 0)])), (w1, .inl (cI, 400, .inl (fun _ => nI 0))), (w2, .inl (cI, 400, .inl (fun _ => nI 0))), (w3, .inl (cI, 400, .inl (fun _ => nI 0))), (qk, .inl (cT, 3, .inr (.inr (.inr (.inr (va_up (va_up (va_up (fun _ => none) 0 (some a0)) 1 (some b0)) 2 (some c0))))))), (a0, .inr (0, [.ref a1, .ref a2, .ref a3, .int (nI 0)])), (a1, .inl (cI, 400, .inl (fun _ => nI 0))), (a2, .inl (cI, 400, .inl (fun _ => nI 0))), (a3, .inl (cI, 400, .inl (fun _ => nI 0))), (b0, .inr (0, [.ref b1, .ref b2, .ref b3, .int (nI 0)])), (b1, .inl (cI, 400, .inl (fun _ => nI 0))), (b2, .inl (cI, 400, .inl (fun _ => nI 0))), (b3, .inl (cI, 400, .inl (fun _ => nI 0))), (c0, .inr (0, [.ref c1, .ref c2, .ref c3, .int (nI 0)])), (c1, .inl (cI, 400, .inl (fun _ => nI 0))), (c2, .inl (cI, 400, .inl (fun _ => nI 0))), (c3, .inl (cI, 400, .inl (fun _ => nI 0))), (q9, .inl (cI, 4, .inl (fun _ => nI 0)))] H := hP
  have hD : va_D A [(u0, .inr (1, [.ref w0, .ref qk, .ref q9, .int (nI 0)])), (w0, .inr (0, [.ref w1, .ref w2, .ref w3, .int (nI 0)])), (w1, .inl (cI, 400, .inl (fun _ => nI 0))), (w2, .inl (cI, 400, .inl (fun _ => nI 0))), (w3, .inl (cI, 400, .inl (fun _ => nI 0))), (qk, .inl (cT, 3, .inr (.inr (.inr (.inr (va_up (va_up (va_up (fun _ => none) 0 (some a0)) 1 (some b0)) 2 (some c0))))))), (a0, .inr (0, [.ref a1, .ref a2, .ref a3, .int (nI 0)])), (a1, .inl (cI, 400, .inl (fun _ => nI 0))), (a2, .inl (cI, 400, .inl (fun _ => nI 0))), (a3, .inl (cI, 400, .inl (fun _ => nI 0))), (b0, .inr (0, [.ref b1, .ref b2, .ref b3, .int (nI 0)])), (b1, .inl (cI, 400, .inl (fun _ => nI 0))), (b2, .inl (cI, 400, .inl (fun _ => nI 0))), (b3, .inl (cI, 400, .inl (fun _ => nI 0))), (c0, .inr (0, [.ref c1, .ref c2, .ref c3, .int (nI 0)])), (c1, .inl (cI, 400, .inl (fun _ => nI 0))), (c2, .inl (cI, 400, .inl (fun _ => nI 0))), (c3, .inl (cI, 400, .inl (fun _ => nI 0))), (q9, .inl (cI, 4, .inl (fun _ => nI 0)))] := hD
  have hP := zq_congr hP 5 (f' := fun j => some ((gl [u0, qk, q9, a0, a1, a2, a3, b0, b1, b2, b3, c0, c1, c2, c3, w0, w1, w2, w3]) (3 + 4 * j))) rfl (fun j hj => by rcases (show j = 0 ∨ j = 1 ∨ j = 2 by omega) with rfl | rfl | rfl <;> rfl)
  have hD : va_D A _ := zDs (ws' := [(u0, .inr (1, [.ref w0, .ref qk, .ref q9, .int (nI 0)])), (w0, .inr (0, [.ref w1, .ref w2, .ref w3, .int (nI 0)])), (w1, .inl (cI, 400, .inl (fun _ => nI 0))), (w2, .inl (cI, 400, .inl (fun _ => nI 0))), (w3, .inl (cI, 400, .inl (fun _ => nI 0))), (qk, .inl (cT, 3, .inr (.inr (.inr (.inr (va_up (va_up (va_up (fun _ => none) 0 (some a0)) 1 (some b0)) 2 (some c0))))))), (a0, .inr (0, [.ref a1, .ref a2, .ref a3, .int (nI 0)])), (a1, .inl (cI, 400, .inl (fun _ => nI 0))), (a2, .inl (cI, 400, .inl (fun _ => nI 0))), (a3, .inl (cI, 400, .inl (fun _ => nI 0))), (b0, .inr (0, [.ref b1, .ref b2, .ref b3, .int (nI 0)])), (b1, .inl (cI, 400, .inl (fun _ => nI 0))), (b2, .inl (cI, 400, .inl (fun _ => nI 0))), (b3, .inl (cI, 400, .inl (fun _ => nI 0))), (c0, .inr (0, [.ref c1, .ref c2, .ref c3, .int (nI 0)])), (c1, .inl (cI, 400, .inl (fun _ => nI 0))), (c2, .inl (cI, 400, .inl (fun _ => nI 0))), (c3, .inl (cI, 400, .inl (fun _ => nI 0))), (q9, .inl (cI, 4, .inl (fun _ => nI 0)))].set 5 (qk, .inl (cT, 3, .inr (.inr (.inr (.inr (fun j => some ((gl [u0, qk, q9, a0, a1, a2, a3, b0, b1, b2, b3, c0, c1, c2, c3, w0, w1, w2, w3]) (3 + 4 * j))))))))) hD rfl
  have hP : va_P (dC, dI) vwCl (wR (gl [u0, qk, q9, a0, a1, a2, a3, b0, b1, b2, b3, c0, c1, c2, c3, w0, w1, w2, w3]) cI cT a0s) H := hP.sub [0, 5, 18, 6, 7, 8, 9, 10, 11, 12, 13, 14, 15, 16, 17, 1, 2, 3, 4] rfl
  have hD : va_D A (wR (gl [u0, qk, q9, a0, a1, a2, a3, b0, b1, b2, b3, c0, c1, c2, c3, w0, w1, w2, w3]) cI cT a0s) := hD.sub [0, 5, 18, 6, 7, 8, 9, 10, 11, 12, 13, 14, 15, 16, 17, 1, 2, 3, 4] (by decide) rfl
  refine W.widen (k := 18) (n := 4823) (by decide +kernel) (by decide +kernel) ?_
  exact W.vret hx hb hr (fun t9 ht9 hW9 => ⟨⟨(gl [u0, qk, q9, a0, a1, a2, a3, b0, b1, b2, b3, c0, c1, c2, c3, w0, w1, w2, w3]), rfl, rfl, by show va_P _ _ _ t9.heap; rw [ht9]; exact hP, hD⟩, hS.F ht9⟩) hS.2.2 dX1_init_61
set_option maxHeartbeats 4000000 in
set_option maxRecDepth 100000 in
/-- RevisionTreeModel() -/
theorem c_Model_init (l : Launch) (dC : Nat → ClassId) (dI : Nat → Nat → Nat) (cI cT : ClassId) (u0 : Nat) (sz : Nat)  : Met l yX2_init wsX2_init ({ frames := 1, cells := 5, slots := 4808, locals := 12 }) (va_Pc [.ref u0] (zPW (dC, dI) vwCl cI cT [(u0, .inr (2, [.null, .null, .null, .null, .null, .int (nI 0)]))] sz)) (va_Qv (fun (g : Nat → Nat) => g 0 = u0) (fun g t => va_P (dC, dI) vwCl (wM g cI m0s) t.heap ∧ va_D (va_A [(u0, .inr (2, [.null, .null, .null, .null, .null, .int (nI 0)]))] sz) (wM g cI m0s)) (va_A [(u0, .inr (2, [.null, .null, .null, .null, .null, .int (nI 0)]))] sz)) 5 4808 (va_A [(u0, .inr (2, [.null, .null, .null, .null, .null, .int (nI 0)]))] sz) := by
  refine Met.ofW (cc := cX2_init) (maxL := 1) (ret := none) (by decide) rfl ?_
  intro p e s m args below meth c s₁ B hml hv
  obtain ⟨rfl, hsz, hP, hK, hD0⟩ := hv
  have hx := B.exec
  have hb := B.bytes
  have hr := B.returns
  have hts := atoms_spec (ws := wsX2_init) B.pre
  have hown : s.vm.findClass RX2 = some m.cls := findClass_of_methodNamed B.named
  have hlocks := B.notSynchronized
  have hin : meth.name = "<init>" := (name_of_methodNamed B.named B.method).1
  subst hsz
  have hD := hD0.self (sz := s.heap.size)
  generalize hAe : va_A [(u0, .inr (2, [.null, .null, .null, .null, .null, .int (nI 0)]))] s.heap.size = A at hD ⊢
  have hA : ∀ q : Nat, s.heap.size ≤ q → A q := fun q h => by rw [← hAe]; exact Or.inr h
  have hS : va_S A s.heap s.heap [] := va_S.rf
  have hl := lv_entry ([.ref u0]) (n := 1) (Nat.le_of_ble_eq_true rfl)
  rw [lg_entry_eq]
  generalize (lg_sl ([.ref u0]) ++ List.replicate (1 - (lg_sl ([.ref u0])).length) Slot.unset).toArray = ls at hl ⊢
  have hl : lv_has ls 1 [(0, .ref u0)] := hl
  refine lv_aload_n hx hb dX2_init_0 rfl (lv_at hl 0 rfl) ?_
  refine W.objInit hx hb hown (hts (.methodLink RX2 1 objectInit) (by decide +kernel)) (hts (.instanceMethod objectInit) (by decide +kernel)) (hts _ (List.mem_cons_of_mem _ (List.mem_append_left _ (List.mem_of_getElem? (i := 2) rfl)))) rfl (by rw [hml]; exact hl.1) rfl dX2_init_1 (Nat.le_of_ble_eq_true rfl) (Nat.le_of_ble_eq_true rfl) ?_
  refine W.eq (g2 := F0 m 4 ls []) rfl ?_
  refine lv_aload_n hx hb dX2_init_4 rfl (lv_at hl 0 rfl) ?_
  refine lv_sipush (v := nI 1600) hx hb dX2_init_5 (by decide) ?_
  refine va_newa (atype := .int) hx hb (hts (.arrayClass .int) (by decide +kernel)) (ty := .int) rfl hK hP hD hS hA (N' := 1600) (a0 := (1600, .inl (fun _ => nI 0))) (z0c _) (nI_pos (by decide +kernel)) (nI_clamp (by decide +kernel)) (by decide +kernel) (by decide +kernel) (by decide +kernel) dX2_init_8 (fun q1 cA1 H hK1 hP hD hS => ?_)
  have eA1 : cA1 = cI := Option.some.inj ((show s.vm.findClass _ = some cA1 from (hK1.2 2 _ rfl).2).symm.trans (show s.vm.findClass _ = some cI from (hK1.2 0 _ rfl).2))
  rw [eA1] at hP hD
  have hP : va_P (dC, dI) vwCl [(u0, .inr (2, [.null, .null, .null, .null, .null, .int (nI 0)])), (q1, .inl (cI, 1600, .inl (fun _ => nI 0)))] H := hP
  have hD : va_D A [(u0, .inr (2, [.null, .null, .null, .null, .null, .int (nI 0)])), (q1, .inl (cI, 1600, .inl (fun _ => nI 0)))] := hD
  refine va_putF (D := (dC, dI)) (ci := 2) (v := .ref q1) (ty := .array .int) (C := RX2) (T := TX2) (N := 6) hx hb hts (by decide +kernel) tyX2 tyX2_ok nmX2 hown hK hP hD hS 0 rfl rfl 0 (by decide) (hts (.fieldLink RX2 9 "RevisionTreeModel" "key" "[I") (by decide +kernel)) (fun _ h9 => h9) rfl hin rfl (by decide +kernel) rfl rfl (Nat.le_of_ble_eq_true rfl) dX2_init_10 (fun H locs hP hD hS => ?_)
  have hP : va_P (dC, dI) vwCl [(u0, .inr (2, [.ref q1, .null, .null, .null, .null, .int (nI 0)])), (q1, .inl (cI, 1600, .inl (fun _ => nI 0)))] H := hP
  have hD : va_D A [(u0, .inr (2, [.ref q1, .null, .null, .null, .null, .int (nI 0)])), (q1, .inl (cI, 1600, .inl (fun _ => nI 0)))] := hD
  refine lv_aload_n hx hb dX2_init_13 rfl (lv_at hl 0 rfl) ?_
  refine lv_sipush (v := nI 1600) hx hb dX2_init_14 (by decide) ?_
  refine va_newa (atype := .int) hx hb (hts (.arrayClass .int) (by decide +kernel)) (ty := .int) rfl hK hP hD hS hA (N' := 1600) (a0 := (1600, .inl (fun _ => nI 0))) (z0c _) (nI_pos (by decide +kernel)) (nI_clamp (by decide +kernel)) (by decide +kernel) (by decide +kernel) (by decide +kernel) dX2_init_17 (fun q2 cA2 H hK2 hP hD hS => ?_)
  have eA2 : cA2 = cI := Option.some.inj ((show s.vm.findClass _ = some cA2 from (hK2.2 2 _ rfl).2).symm.trans (show s.vm.findClass _ = some cI from (hK2.2 0 _ rfl).2))
  rw [eA2] at hP hD
  have hP : va_P (dC, dI) vwCl [(u0, .inr (2, [.ref q1, .null, .null, .null, .null, .int (nI 0)])), (q1, .inl (cI, 1600, .inl (fun _ => nI 0))), (q2, .inl (cI, 1600, .inl (fun _ => nI 0)))] H := hP
  have hD : va_D A [(u0, .inr (2, [.ref q1, .null, .null, .null, .null, .int (nI 0)])), (q1, .inl (cI, 1600, .inl (fun _ => nI 0))), (q2, .inl (cI, 1600, .inl (fun _ => nI 0)))] := hD
  refine va_putF (D := (dC, dI)) (ci := 2) (v := .ref q2) (ty := .array .int) (C := RX2) (T := TX2) (N := 6) hx hb hts (by decide +kernel) tyX2 tyX2_ok nmX2 hown hK hP hD hS 0 rfl rfl 1 (by decide) (hts (.fieldLink RX2 13 "RevisionTreeModel" "value" "[I") (by decide +kernel)) (fun _ h9 => h9) rfl hin rfl (by decide +kernel) rfl rfl (Nat.le_of_ble_eq_true rfl) dX2_init_19 (fun H locs hP hD hS => ?_)
  have hP : va_P (dC, dI) vwCl [(u0, .inr (2, [.ref q1, .ref q2, .null, .null, .null, .int (nI 0)])), (q1, .inl (cI, 1600, .inl (fun _ => nI 0))), (q2, .inl (cI, 1600, .inl (fun _ => nI 0)))] H := hP
  have hD : va_D A [(u0, .inr (2, [.ref q1, .ref q2, .null, .null, .null, .int (nI 0)])), (q1, .inl (cI, 1600, .inl (fun _ => nI 0))), (q2, .inl (cI, 1600, .inl (fun _ => nI 0)))] := hD
  refine lv_aload_n hx hb dX2_init_22 rfl (lv_at hl 0 rfl) ?_
  refine lv_sipush (v := nI 1600) hx hb dX2_init_23 (by decide) ?_
  refine va_newa (atype := .int) hx hb (hts (.arrayClass .int) (by decide +kernel)) (ty := .int) rfl hK hP hD hS hA (N' := 1600) (a0 := (1600, .inl (fun _ => nI 0))) (z0c _) (nI_pos (by decide +kernel)) (nI_clamp (by decide +kernel)) (by decide +kernel) (by decide +kernel) (by decide +kernel) dX2_init_26 (fun q3 cA3 H hK3 hP hD hS => ?_)
  have eA3 : cA3 = cI := Option.some.inj ((show s.vm.findClass _ = some cA3 from (hK3.2 2 _ rfl).2).symm.trans (show s.vm.findClass _ = some cI from (hK3.2 0 _ rfl).2))
  rw [eA3] at hP hD
  have hP : va_P (dC, dI) vwCl [(u0, .inr (2, [.ref q1, .ref q2, .null, .null, .null, .int (nI 0)])), (q1, .inl (cI, 1600, .inl (fun _ => nI 0))), (q2, .inl (cI, 1600, .inl (fun _ => nI 0))), (q3, .inl (cI, 1600, .inl (fun _ => nI 0)))] H := hP
  have hD : va_D A [(u0, .inr (2, [.ref q1, .ref q2, .null, .null, .null, .int (nI 0)])), (q1, .inl (cI, 1600, .inl (fun _ => nI 0))), (q2, .inl (cI, 1600, .inl (fun _ => nI 0))), (q3, .inl (cI, 1600, .inl (fun _ => nI 0)))] := hD
  refine va_putF (D := (dC, dI)) (ci := 2) (v := .ref q3) (ty := .array .int) (C := RX2) (T := TX2) (N := 6) hx hb hts (by decide +kernel) tyX2 tyX2_ok nmX2 hown hK hP hD hS 0 rfl rfl 2 (by decide) (hts (.fieldLink RX2 16 "RevisionTreeModel" "size" "[I") (by decide +kernel)) (fun _ h9 => h9) rfl hin rfl (by decide +kernel) rfl rfl (Nat.le_of_ble_eq_true rfl) dX2_init_28 (fun H locs hP hD hS => ?_)
  have hP : va_P (dC, dI) vwCl [(u0, .inr (2, [.ref q1, .ref q2, .ref q3, .null, .null, .int (nI 0)])), (q1, .inl (cI, 1600, .inl (fun _ => nI 0))), (q2, .inl (cI, 1600, .inl (fun _ => nI 0))), (q3, .inl (cI, 1600, .inl (fun _ => nI 0)))] H := hP
  have hD : va_D A [(u0, .inr (2, [.ref q1, .ref q2, .ref q3, .null, .null, .int (nI 0)])), (q1, .inl (cI, 1600, .inl (fun _ => nI 0))), (q2, .inl (cI, 1600, .inl (fun _ => nI 0))), (q3, .inl (cI, 1600, .inl (fun _ => nI 0)))] := hD
  refine lv_aload_n hx hb dX2_init_31 rfl (lv_at hl 0 rfl) ?_
  refine lv_iconst (v := nI 4) hx hb dX2_init_32 (by decide) ?_
  refine va_newa (atype := .int) hx hb (hts (.arrayClass .int) (by decide +kernel)) (ty := .int) rfl hK hP hD hS hA (N' := 4) (a0 := (4, .inl (fun _ => nI 0))) (z0c _) (nI_pos (by decide +kernel)) (nI_clamp (by decide +kernel)) (by decide +kernel) (by decide +kernel) (by decide +kernel) dX2_init_33 (fun q4 cA4 H hK4 hP hD hS => ?_)
  have eA4 : cA4 = cI := Option.some.inj ((show s.vm.findClass _ = some cA4 from (hK4.2 2 _ rfl).2).symm.trans (show s.vm.findClass _ = some cI from (hK4.2 0 _ rfl).2))
  rw [eA4] at hP hD
  have hP : va_P (dC, dI) vwCl [(u0, .inr (2, [.ref q1, .ref q2, .ref q3, .null, .null, .int (nI 0)])), (q1, .inl (cI, 1600, .inl (fun _ => nI 0))), (q2, .inl (cI, 1600, .inl (fun _ => nI 0))), (q3, .inl (cI, 1600, .inl (fun _ => nI 0))), (q4, .inl (cI, 4, .inl (fun _ => nI 0)))] H := hP
  have hD : va_D A [(u0, .inr (2, [.ref q1, .ref q2, .ref q3, .null, .null, .int (nI 0)])), (q1, .inl (cI, 1600, .inl (fun _ => nI 0))), (q2, .inl (cI, 1600, .inl (fun _ => nI 0))), (q3, .inl (cI, 1600, .inl (fun _ => nI 0))), (q4, .inl (cI, 4, .inl (fun _ => nI 0)))] := hD
  refine va_putF (D := (dC, dI)) (ci := 2) (v := .ref q4) (ty := .array .int) (C := RX2) (T := TX2) (N := 6) hx hb hts (by decide +kernel) tyX2 tyX2_ok nmX2 hown hK hP hD hS 0 rfl rfl 3 (by decide) (hts (.fieldLink RX2 19 "RevisionTreeModel" "count" "[I") (by decide +kernel)) (fun _ h9 => h9) rfl hin rfl (by decide +kernel) rfl rfl (Nat.le_of_ble_eq_true rfl) dX2_init_35 (fun H locs hP hD hS => ?_)
  have hP : va_P (dC, dI) vwCl [(u0, .inr (2, [.ref q1, .ref q2, .ref q3, .ref q4, .null, .int (nI 0)])), (q1, .inl (cI, 1600, .inl (fun _ => nI 0))), (q2, .inl (cI, 1600, .inl (fun _ => nI 0))), (q3, .inl (cI, 1600, .inl (fun _ => nI 0))), (q4, .inl (cI, 4, .inl (fun _ => nI 0)))] H := hP
  have hD : va_D A [(u0, .inr (2, [.ref q1, .ref q2, .ref q3, .ref q4, .null, .int (nI 0)])), (q1, .inl (cI, 1600, .inl (fun _ => nI 0))), (q2, .inl (cI, 1600, .inl (fun _ => nI 0))), (q3, .inl (cI, 1600, .inl (fun _ => nI 0))), (q4, .inl (cI, 4, .inl (fun _ => nI 0)))] := hD
  refine lv_aload_n hx hb dX2_init_38 rfl (lv_at hl 0 rfl) ?_
  refine lv_iconst (v := nI 4) hx hb dX2_init_39 (by decide) ?_
  refine va_newa (atype := .int) hx hb (hts (.arrayClass .int) (by decide +kernel)) (ty := .int) rfl hK hP hD hS hA (N' := 4) (a0 := (4, .inl (fun _ => nI 0))) (z0c _) (nI_pos (by decide +kernel)) (nI_clamp (by decide +kernel)) (by decide +kernel) (by decide +kernel) (by decide +kernel) dX2_init_40 (fun q5 cA5 H hK5 hP hD hS => ?_)
  have eA5 : cA5 = cI := Option.some.inj ((show s.vm.findClass _ = some cA5 from (hK5.2 2 _ rfl).2).symm.trans (show s.vm.findClass _ = some cI from (hK5.2 0 _ rfl).2))
  rw [eA5] at hP hD
  have hP : va_P (dC, dI) vwCl [(u0, .inr (2, [.ref q1, .ref q2, .ref q3, .ref q4, .null, .int (nI 0)])), (q1, .inl (cI, 1600, .inl (fun _ => nI 0))), (q2, .inl (cI, 1600, .inl (fun _ => nI 0))), (q3, .inl (cI, 1600, .inl (fun _ => nI 0))), (q4, .inl (cI, 4, .inl (fun _ => nI 0))), (q5, .inl (cI, 4, .inl (fun _ => nI 0)))] H := hP
  have hD : va_D A [(u0, .inr (2, [.ref q1, .ref q2, .ref q3, .ref q4, .null, .int (nI 0)])), (q1, .inl (cI, 1600, .inl (fun _ => nI 0))), (q2, .inl (cI, 1600, .inl (fun _ => nI 0))), (q3, .inl (cI, 1600, .inl (fun _ => nI 0))), (q4, .inl (cI, 4, .inl (fun _ => nI 0))), (q5, .inl (cI, 4, .inl (fun _ => nI 0)))] := hD
  refine va_putF (D := (dC, dI)) (ci := 2) (v := .ref q5) (ty := .array .int) (C := RX2) (T := TX2) (N := 6) hx hb hts (by decide +kernel) tyX2 tyX2_ok nmX2 hown hK hP hD hS 0 rfl rfl 4 (by decide) (hts (.fieldLink RX2 22 "RevisionTreeModel" "reader" "[I") (by decide +kernel)) (fun _ h9 => h9) rfl hin rfl (by decide +kernel) rfl rfl (Nat.le_of_ble_eq_true rfl) dX2_init_42 (fun H locs hP hD hS => ?_)
  have hP : va_P (dC, dI) vwCl [(u0, .inr (2, [.ref q1, .ref q2, .ref q3, .ref q4, .ref q5, .int (nI 0)])), (q1, .inl (cI, 1600, .inl (fun _ => nI 0))), (q2, .inl (cI, 1600, .inl (fun _ => nI 0))), (q3, .inl (cI, 1600, .inl (fun _ => nI 0))), (q4, .inl (cI, 4, .inl (fun _ => nI 0))), (q5, .inl (cI, 4, .inl (fun _ => nI 0)))] H := hP
  have hD : va_D A [(u0, .inr (2, [.ref q1, .ref q2, .ref q3, .ref q4, .ref q5, .int (nI 0)])), (q1, .inl (cI, 1600, .inl (fun _ => nI 0))), (q2, .inl (cI, 1600, .inl (fun _ => nI 0))), (q3, .inl (cI, 1600, .inl (fun _ => nI 0))), (q4, .inl (cI, 4, .inl (fun _ => nI 0))), (q5, .inl (cI, 4, .inl (fun _ => nI 0)))] := hD
  refine W.widen (k := 5) (n := 4808) (by decide +kernel) (by decide +kernel) ?_
  exact W.vret hx hb hr (fun t9 ht9 hW9 => ⟨⟨gl [u0, q1, q2, q3, q4, q5], rfl, rfl, by show va_P _ _ _ t9.heap; rw [ht9]; exact hP, hD⟩, hS.F ht9⟩) hS.2.2 dX2_init_45
end
section
-- ===== end of PART A; then your names; then what follows =====
/-! THE CLAIM OUT OF ONE WALK OF THE LAW'S BODY. Your part is whole_start (and what it stands on); all else here is the same for every law, but numbers. -/
def R_law : String := "RevisionTreeLaw"
def lw_P (b : Addr) (xs : List Int32) (args : Array Value) (s : State) : Prop := args = #[.ref b] ∧ s.IntsAt b xs ∧ xs.length ≤ 2560 ∧ (Jvm.Cond.and given_1 narrow_1).before args s = true
def lw_Q (_ : Array Value) (s : State) (o : Outcome) (t : State) : Prop := o = .returned (some (.int 1)) ∧ Framed s o t [] 600000 7302250
def lw_Z (below : List Frame) (a : Array Value) (s : State) : State → Prop := fun t => ∃ o, t.status = .running ∧ Ended t below o ∧ lw_Q a s o t
/-- the law's own end, with 1 on the stack, nothing written that was there before, its room as the claim has it -/
theorem lw_ret {p : Program} {l : Launch} {e : Env} {s : State} {m : MethodId} {below : List Frame} {meth : Method} {c : Code} {b : Nat} (hx : p.tables.exec = Jvm.exec) (hb : c.code = code) (hr : meth.sig.returnType = ret) (hlocks : meth.locks = false) {pc : Nat} {H : Heap} {ls : Array Slot} (hdg : decode code pc = .ok (.ireturn, 1)) : W p l e room_1 s m #[Value.ref b] below meth c H [] 600000 7302250 (lw_Z below #[Value.ref b] s) (F0 m pc ls [.int 1]) := by
  intro T hT X
  obtain ⟨fs, hret, hrun, hended, hW, hframe⟩ := X.leave (v := some (.int 1)) (hlocks := hlocks) (fun h => by rw [hr] at h; cases h)
  have hmeth' : T.vm.method? m = some meth := X.method'
  refine ⟨T.setFrames fs, ?_, .returned (some (.int 1)), hrun, hended, rfl, ⟨_, rfl⟩, hW, hframe⟩
  jvm_step X.here [X.here.top, hx, hb, hdg, hmeth', hr, ret, narrow_b1]
  (try refine ⟨rfl, ?_⟩); (try refine ⟨rfl, ?_⟩)
  first | (intro acts; rw [hret _ acts rfl rfl rfl]) | rw [hret _ _ rfl rfl rfl]
  exact Steps.refl _
/-- what holds at the law's entry: the machine, the code, the tables' words (any of lw_tbl by 'hts w (by decide +kernel)'), the script of L ints xs at the cell b, what the Statement gives of the start (any of its parts by flat_of_before) -/
def lw_At (p : Program) (s : State) (m : MethodId) (meth : Method) (c : Code) (b L : Nat) (xs : Nat → Int32) : Prop :=
  p.tables.exec = Jvm.exec ∧ c.code = code ∧ meth.sig.returnType = ret ∧ c.maxLocals = 4 ∧ s.vm.findClass R_law = some m.cls ∧ (∀ w ∈ lw_tbl, w.before #[Value.ref b] s = true) ∧ va_X b L xs s s.heap ∧ b < s.heap.size ∧ meth.locks = false ∧ (Jvm.Cond.and given_1 narrow_1).before #[Value.ref b] s = true
end
section
-- MORE ROWS: a world of two halves; a call that writes one of them
theorem zal {α : Type} {w1 w2 : List α} {k : Nat} {q : α} (h : w1[k]? = some q) : (w1 ++ w2)[k]? = some q := by
  rw [List.getElem?_append_left (List.getElem?_eq_some_iff.mp h).1]
  exact h
theorem zar {α : Type} {w1 w2 : List α} {k : Nat} {q : α} (h : w2[k]? = some q) : (w1 ++ w2)[w1.length + k]? = some q := by
  rw [List.getElem?_append_right (Nat.le_add_right _ _), Nat.add_sub_cancel_left]
  exact h
theorem zPl {D : va_G} {cl : List vw_C} {w1 w2 : va_W} {H : Heap} (h : va_P D cl (w1 ++ w2) H) : va_P D cl w1 H := fun k q hk => h k q (zal hk)
theorem zPr {D : va_G} {cl : List vw_C} {w1 w2 : va_W} {H : Heap} (h : va_P D cl (w1 ++ w2) H) : va_P D cl w2 H := fun k q hk => h (w1.length + k) q (zar hk)
theorem zDl {A : Nat → Prop} {w1 w2 : va_W} (h : va_D A (w1 ++ w2)) : va_D A w1 := ⟨fun i j x y hi hj e => h.1 i j x y (zal hi) (zal hj) e, fun k q hk => h.2 k q (zal hk)⟩
theorem zDr {A : Nat → Prop} {w1 w2 : va_W} (h : va_D A (w1 ++ w2)) : va_D A w2 := ⟨fun i j x y hi hj e => by
    have h9 := h.1 (w1.length + i) (w1.length + j) x y (zar hi) (zar hj) e
    omega, fun k q hk => h.2 (w1.length + k) q (zar hk)⟩
theorem zjL {A : Nat → Prop} {D : va_G} {cl : List vw_C} {w1 w2 w1' : va_W} {H H1 : Heap} (hP : va_P D cl (w1 ++ w2) H) (hD : va_D A (w1 ++ w2)) (hk : ∀ q : Nat, q < H.size → ¬ va_A w1 H.size q → H1[q]? = H[q]?) (hP1 : va_P D cl w1' H1) : va_P D cl (w1' ++ w2) H1 := va_P.app hP1 (fun k q hq => by
  have h2 := zPr hP k q hq
  refine h2.kept (hk q.1 h2.lt ?_)
  rintro (⟨j, e, he⟩ | h)
  · have hj := (List.getElem?_eq_some_iff.mp he).1
    have h9 := hD.1 j (w1.length + k) (q.1, e) q (zal he) (zar hq) rfl
    omega
  · have h9 := h2.lt
    omega)
theorem zjR {A : Nat → Prop} {D : va_G} {cl : List vw_C} {w1 w2 w2' : va_W} {H H1 : Heap} (hP : va_P D cl (w1 ++ w2) H) (hD : va_D A (w1 ++ w2)) (hk : ∀ q : Nat, q < H.size → ¬ va_A w2 H.size q → H1[q]? = H[q]?) (hP1 : va_P D cl w2' H1) : va_P D cl (w1 ++ w2') H1 := va_P.app (fun k q hq => by
  have h2 := zPl hP k q hq
  refine h2.kept (hk q.1 h2.lt ?_)
  rintro (⟨j, e, he⟩ | h)
  · have hj := (List.getElem?_eq_some_iff.mp hq).1
    have h9 := hD.1 k (w1.length + j) q (q.1, e) (zal hq) (zar he) rfl
    omega
  · have h9 := h2.lt
    omega) hP1
section ZH
variable {p : Program} {l : Launch} {e : Env} {R : Room} {s : State} {m : MethodId} {args : Array Value} {below : List Frame} {meth : Method} {c : Code} {H : Heap} {locs : List Loc} {cells slots : Nat} {Q : State → Prop}
variable {pc : Nat} {ls : Array Slot} {rest st0 : List Value} {D : va_G} {cl : List vw_C} {A : Nat → Prop} {w1 w2 : va_W} {H0 : Heap}
theorem zwiL {S : Type} {post : Int32 → S → Prop} {wf : S → va_W} {av : Array Value} (hr : va_Run p l e R s m args below meth c H locs cells slots 0 0 (F0 m pc ls st0) rest (va_Qi post (fun u t => va_P D cl (wf u) t.heap) (va_A w1 H.size) av) (va_A w1 H.size)) (hP : va_P D cl (w1 ++ w2) H) (hD : va_D A (w1 ++ w2)) (hS : va_S A H0 H locs) (hA : ∀ q : Nat, H0.size ≤ q → A q) (ha : ∀ u, (wf u).map Prod.fst = w1.map Prod.fst)
    (kk : ∀ (r : Int32) (u : S) (H1 : Heap) (locs1 : List Loc), post r u → va_P D cl (wf u ++ w2) H1 → va_D A (wf u ++ w2) → va_S A H0 H1 locs1 → W p l e R s m args below meth c H1 locs1 cells slots Q (F0 m (pc + 3) ls (.int r :: rest))) : W p l e R s m args below meth c H locs cells slots Q (F0 m pc ls st0) := by
  have hF : ∀ q, va_A w1 H.size q → A q := by
    rintro q (⟨k, e, h⟩ | h)
    · exact hD.2 k (q, e) (zal h)
    · exact hA q (Nat.le_trans hS.1 h)
  exact va_calli hr hS (fun q _ h => hF q h) hF (fun r u t H1 locs1 ht hvm hw hB hz hk hS => kk r u H1 locs1 hw (zjL hP hD hk (by rw [← ht]; exact hB)) (zDs hD (by rw [List.map_append, List.map_append, ha u])) hS)
theorem zwiR {S : Type} {post : Int32 → S → Prop} {wf : S → va_W} {av : Array Value} (hr : va_Run p l e R s m args below meth c H locs cells slots 0 0 (F0 m pc ls st0) rest (va_Qi post (fun u t => va_P D cl (wf u) t.heap) (va_A w2 H.size) av) (va_A w2 H.size)) (hP : va_P D cl (w1 ++ w2) H) (hD : va_D A (w1 ++ w2)) (hS : va_S A H0 H locs) (hA : ∀ q : Nat, H0.size ≤ q → A q) (ha : ∀ u, (wf u).map Prod.fst = w2.map Prod.fst)
    (kk : ∀ (r : Int32) (u : S) (H1 : Heap) (locs1 : List Loc), post r u → va_P D cl (w1 ++ wf u) H1 → va_D A (w1 ++ wf u) → va_S A H0 H1 locs1 → W p l e R s m args below meth c H1 locs1 cells slots Q (F0 m (pc + 3) ls (.int r :: rest))) : W p l e R s m args below meth c H locs cells slots Q (F0 m pc ls st0) := by
  have hF : ∀ q, va_A w2 H.size q → A q := by
    rintro q (⟨k, e, h⟩ | h)
    · exact hD.2 (w1.length + k) (q, e) (zar h)
    · exact hA q (Nat.le_trans hS.1 h)
  exact va_calli hr hS (fun q _ h => hF q h) hF (fun r u t H1 locs1 ht hvm hw hB hz hk hS => kk r u H1 locs1 hw (zjR hP hD hk (by rw [← ht]; exact hB)) (zDs hD (by rw [List.map_append, List.map_append, ha u])) hS)
end ZH
end
section
theorem z_cmp (x : Int64) : lg_cmp x x = nI 0 := by
  have h : ¬ x > x := fun h => by
    have h9 := Int64.lt_iff_toInt_lt.mp h
    omega
  unfold lg_cmp
  rw [if_neg h, if_pos rfl]
  rfl
theorem z_5 (c5 : Nat) : nI (5 * c5) + Int32.ofInt 5 = nI (5 * (c5 + 1)) := (nI_add (5 * c5) 5).trans (congrArg nI (by omega))
theorem z_le5 {L c5 : Nat} (h : ¬ nI L - nI 5 < nI (5 * c5)) (h1 : L < 2 ^ 30) (h2 : 5 * c5 < 2 ^ 30) : 5 * c5 + 5 ≤ L := by
  have h9 : ¬ (nI L - nI 5).toInt < (nI (5 * c5)).toInt := fun q => h (Int32.lt_iff_toInt_lt.mpr q)
  rw [pk_sub_toInt h1 (by decide), nI_toInt (by omega)] at h9
  omega
theorem zarrI {args : Array Value} {s : State} (h : (Cond.arrayClass .int).before args s = true) : ∃ cA : ClassId, ArrOfT s cA .int ∧ va_RA s cA .int := by
  obtain ⟨cA, kA, comp, h1, h2, h3⟩ := Cond.arrayClass_spec h
  exact ⟨cA, fun n z => ⟨fun k h => (by cases h), kA, h2, comp, h3⟩, h1⟩
theorem zarrT {args : Array Value} {s : State} {C : String} (h : (Cond.arrayOver (.object C)).before args s = true) : ∃ cA : ClassId, ArrOfT s cA (.object C) ∧ va_RA s cA (.object C) := by
  obtain ⟨comp, cA, kA, h1, h2, h3, h4, h5⟩ := Cond.arrayOver_spec h
  exact ⟨cA, fun n z => ⟨fun k h => (by cases h), kA, h3, comp, h4⟩, kA, comp, h3, h4, h1, h5⟩
set_option maxHeartbeats 4000000 in
set_option maxRecDepth 100000 in
/-- the law, case 0: put -/
theorem law_put {p : Program} {l : Launch} {e : Env} {s : State} {m : MethodId} {below : List Frame} {meth : Method} {c : Code} {dC : Nat → ClassId} {dI : Nat → Nat → Nat} {cI cT : ClassId} {b L : Nat} {xs : Nat → Int32} {g g2 : Nat → Nat} (hL : L ≤ 2560) (C0 : lw_At p s m meth c b L xs) (hK : va_K (dC, dI) vwCl (zTY cI cT) s) {c5 : Nat} (h5 : 5 * c5 + 5 ≤ L) {a : RS} {w : MS} (hok : okR c5 a) (heq : eqR a (view w)) {H : Heap} {locs : List Loc} {ls : Array Slot} (hP : va_P (dC, dI) vwCl (wR g cI cT a ++ wM g2 cI w) H) (hD : va_D (fun q : Nat => s.heap.size ≤ q) (wR g cI cT a ++ wM g2 cI w)) (hS : va_S (fun q : Nat => s.heap.size ≤ q) s.heap H locs) (hl : lv_has ls 4 [(0, .ref b), (1, .ref (g 0)), (2, .ref (g2 0)), (3, .int (nI (5 * c5)))])
    (kk : ∀ (a : RS) (w : MS) (H : Heap) (locs : List Loc) (ls : Array Slot), okR (c5 + 1) a → eqR a (view w) → va_P (dC, dI) vwCl (wR g cI cT a ++ wM g2 cI w) H → va_D (fun q : Nat => s.heap.size ≤ q) (wR g cI cT a ++ wM g2 cI w) → va_S (fun q : Nat => s.heap.size ≤ q) s.heap H locs → lv_has ls 4 [(0, .ref b), (1, .ref (g 0)), (2, .ref (g2 0)), (3, .int (nI (5 * c5)))] → W p l e room_1 s m #[Value.ref b] below meth c H locs 600000 7302250 (lw_Z below #[Value.ref b] s) (F0 m 417 ls [])) : W p l e room_1 s m #[Value.ref b] below meth c H locs 600000 7302250 (lw_Z below #[Value.ref b] s) (F0 m 92 ls []) := by
  obtain ⟨hx, hb, hr, hml, hown, hts, hX, hbl, hlocks, hgv⟩ := C0
  have htt := hts
  have hts := fun w h => htt w (wsL_law_in w h)
  have hA : ∀ q : Nat, s.heap.size ≤ q → (fun q : Nat => s.heap.size ≤ q) q := fun _ h => h
  have hbA : ¬ (fun q : Nat => s.heap.size ≤ q) b := Nat.not_le.mpr hbl
  refine lv_aload_n hx hb dL_law_92 rfl (lv_at hl 1 rfl) ?_
  refine lv_aload_n hx hb dL_law_93 rfl (lv_at hl 0 rfl) ?_
  refine lv_iload_n hx hb dL_law_94 rfl (lv_at hl 3 rfl) ?_
  refine lv_iconst (v := nI 1) hx hb dL_law_95 (by decide) ?_
  refine lv_iadd hx hb dL_law_96 ?_
  refine zt (y := nI ((5 * c5) + 1)) (nI_add _ _) ?_
  refine va_sld hx hb hX hbl hbA hS (vp_in_nI (show (5 * c5) + 1 < L by omega) (by omega)) dL_law_97 ?_
  refine zt (y := xs ((5 * c5) + 1)) (by rw [nI_clamp (by omega)]) ?_
  refine lv_aload_n hx hb dL_law_98 rfl (lv_at hl 0 rfl) ?_
  refine lv_iload_n hx hb dL_law_99 rfl (lv_at hl 3 rfl) ?_
  refine lv_iconst (v := nI 2) hx hb dL_law_100 (by decide) ?_
  refine lv_iadd hx hb dL_law_101 ?_
  refine zt (y := nI ((5 * c5) + 2)) (nI_add _ _) ?_
  refine va_sld hx hb hX hbl hbA hS (vp_in_nI (show (5 * c5) + 2 < L by omega) (by omega)) dL_law_102 ?_
  refine zt (y := xs ((5 * c5) + 2)) (by rw [nI_clamp (by omega)]) ?_
  refine lv_aload_n hx hb dL_law_103 rfl (lv_at hl 0 rfl) ?_
  refine lv_iload_n hx hb dL_law_104 rfl (lv_at hl 3 rfl) ?_
  refine lv_iconst (v := nI 3) hx hb dL_law_105 (by decide) ?_
  refine lv_iadd hx hb dL_law_106 ?_
  refine zt (y := nI ((5 * c5) + 3)) (nI_add _ _) ?_
  refine va_sld hx hb hX hbl hbA hS (vp_in_nI (show (5 * c5) + 3 < L by omega) (by omega)) dL_law_107 ?_
  refine zt (y := xs ((5 * c5) + 3)) (by rw [nI_clamp (by omega)]) ?_
  refine zwiL (wf := fun u : RS => wR g cI cT u) (va_runV (As := [.int (xs ((5 * c5) + 1)), .int (xs ((5 * c5) + 2)), .int (xs ((5 * c5) + 3))]) (rest := []) ⟨hx, hb, hml, hown, hts⟩ (c_Tree_put l dC dI cI cT g a (xs (5 * c5 + 1)) (xs (5 * c5 + 2)) (xs (5 * c5 + 3)) H.size c5 hok (by omega)) (cwV 3 hts gL_law_X1_put rfl rfl rfl (by decide +kernel) ⟨Nat.le_of_ble_eq_true rfl, Nat.le_of_ble_eq_true rfl⟩) (zpreV hK (zPl hP) (zDl hD) rfl 0 rfl) rfl rfl hl.1 rfl (lv_room (Nat.le_of_ble_eq_true rfl)) dL_law_108 ⟨Nat.le_refl _, Nat.le_refl _⟩) hP hD hS hA (fun _ => rfl) (fun r1 u H locs hw1 hP hD hS => ?_)
  have hP : va_P (dC, dI) vwCl (wR g cI cT u ++ wM g2 cI w) H := hP
  have hD : va_D (fun q : Nat => s.heap.size ≤ q) (wR g cI cT u ++ wM g2 cI w) := hD
  refine lv_aload_n hx hb dL_law_111 rfl (lv_at hl 2 rfl) ?_
  refine lv_aload_n hx hb dL_law_112 rfl (lv_at hl 0 rfl) ?_
  refine lv_iload_n hx hb dL_law_113 rfl (lv_at hl 3 rfl) ?_
  refine lv_iconst (v := nI 1) hx hb dL_law_114 (by decide) ?_
  refine lv_iadd hx hb dL_law_115 ?_
  refine zt (y := nI ((5 * c5) + 1)) (nI_add _ _) ?_
  refine va_sld hx hb hX hbl hbA hS (vp_in_nI (show (5 * c5) + 1 < L by omega) (by omega)) dL_law_116 ?_
  refine zt (y := xs ((5 * c5) + 1)) (by rw [nI_clamp (by omega)]) ?_
  refine lv_aload_n hx hb dL_law_117 rfl (lv_at hl 0 rfl) ?_
  refine lv_iload_n hx hb dL_law_118 rfl (lv_at hl 3 rfl) ?_
  refine lv_iconst (v := nI 2) hx hb dL_law_119 (by decide) ?_
  refine lv_iadd hx hb dL_law_120 ?_
  refine zt (y := nI ((5 * c5) + 2)) (nI_add _ _) ?_
  refine va_sld hx hb hX hbl hbA hS (vp_in_nI (show (5 * c5) + 2 < L by omega) (by omega)) dL_law_121 ?_
  refine zt (y := xs ((5 * c5) + 2)) (by rw [nI_clamp (by omega)]) ?_
  refine lv_aload_n hx hb dL_law_122 rfl (lv_at hl 0 rfl) ?_
  refine lv_iload_n hx hb dL_law_123 rfl (lv_at hl 3 rfl) ?_
  refine lv_iconst (v := nI 3) hx hb dL_law_124 (by decide) ?_
  refine lv_iadd hx hb dL_law_125 ?_
  refine zt (y := nI ((5 * c5) + 3)) (nI_add _ _) ?_
  refine va_sld hx hb hX hbl hbA hS (vp_in_nI (show (5 * c5) + 3 < L by omega) (by omega)) dL_law_126 ?_
  refine zt (y := xs ((5 * c5) + 3)) (by rw [nI_clamp (by omega)]) ?_
  refine zwiR (wf := fun u2 : MS => wM g2 cI u2) (va_runV (As := [.int (xs ((5 * c5) + 1)), .int (xs ((5 * c5) + 2)), .int (xs ((5 * c5) + 3))]) (rest := [.int r1]) ⟨hx, hb, hml, hown, hts⟩ (c_Model_put l dC dI cI cT g2 w (xs (5 * c5 + 1)) (xs (5 * c5 + 2)) (xs (5 * c5 + 3)) H.size c5 (okR_eq heq hok) (by omega)) (cwV 3 hts gL_law_X2_put rfl rfl rfl (by decide +kernel) ⟨Nat.le_of_ble_eq_true rfl, Nat.le_of_ble_eq_true rfl⟩) (zpreV hK (zPr hP) (zDr hD) rfl 0 rfl) rfl rfl hl.1 rfl (lv_room (Nat.le_of_ble_eq_true rfl)) dL_law_127 ⟨Nat.le_refl _, Nat.le_refl _⟩) hP hD hS hA (fun _ => rfl) (fun r2 u2 H locs hw2 hP hD hS => ?_)
  have hP : va_P (dC, dI) vwCl (wR g cI cT u ++ wM g2 cI u2) H := hP
  have hD : va_D (fun q : Nat => s.heap.size ≤ q) (wR g cI cT u ++ wM g2 cI u2) := hD
  refine lv_icmp_eq (tgt := 417) hx hb dL_law_130 (by decide) (fun h_130 => ?_) (fun h_130 => absurd (hw1.1.trans ((aPut_eq heq (xs (5 * c5 + 1)) (xs (5 * c5 + 2)) (xs (5 * c5 + 3))).1.trans hw2.1.symm)) h_130)
  exact kk u u2 _ _ _ (okR_up (okR_eq (eqR_sy hw1.2) (aPut_ok hok (xs (5 * c5 + 1)) (xs (5 * c5 + 2)) (xs (5 * c5 + 3)))) (Nat.le_succ c5)) (eqR_tr hw1.2 (eqR_tr (aPut_eq heq (xs (5 * c5 + 1)) (xs (5 * c5 + 2)) (xs (5 * c5 + 3))).2 (eqR_sy hw2.2))) hP hD hS (lv_sub hl [0, 1, 2, 3] rfl)
set_option maxHeartbeats 4000000 in
set_option maxRecDepth 100000 in
/-- the law, case 1: some -/
theorem law_some {p : Program} {l : Launch} {e : Env} {s : State} {m : MethodId} {below : List Frame} {meth : Method} {c : Code} {dC : Nat → ClassId} {dI : Nat → Nat → Nat} {cI cT : ClassId} {b L : Nat} {xs : Nat → Int32} {g g2 : Nat → Nat} (hL : L ≤ 2560) (C0 : lw_At p s m meth c b L xs) (hK : va_K (dC, dI) vwCl (zTY cI cT) s) {c5 : Nat} (h5 : 5 * c5 + 5 ≤ L) {a : RS} {w : MS} (hok : okR c5 a) (heq : eqR a (view w)) {H : Heap} {locs : List Loc} {ls : Array Slot} (hP : va_P (dC, dI) vwCl (wR g cI cT a ++ wM g2 cI w) H) (hD : va_D (fun q : Nat => s.heap.size ≤ q) (wR g cI cT a ++ wM g2 cI w)) (hS : va_S (fun q : Nat => s.heap.size ≤ q) s.heap H locs) (hl : lv_has ls 4 [(0, .ref b), (1, .ref (g 0)), (2, .ref (g2 0)), (3, .int (nI (5 * c5)))])
    (kk : ∀ (a : RS) (w : MS) (H : Heap) (locs : List Loc) (ls : Array Slot), okR (c5 + 1) a → eqR a (view w) → va_P (dC, dI) vwCl (wR g cI cT a ++ wM g2 cI w) H → va_D (fun q : Nat => s.heap.size ≤ q) (wR g cI cT a ++ wM g2 cI w) → va_S (fun q : Nat => s.heap.size ≤ q) s.heap H locs → lv_has ls 4 [(0, .ref b), (1, .ref (g 0)), (2, .ref (g2 0)), (3, .int (nI (5 * c5)))] → W p l e room_1 s m #[Value.ref b] below meth c H locs 600000 7302250 (lw_Z below #[Value.ref b] s) (F0 m 417 ls [])) : W p l e room_1 s m #[Value.ref b] below meth c H locs 600000 7302250 (lw_Z below #[Value.ref b] s) (F0 m 135 ls []) := by
  obtain ⟨hx, hb, hr, hml, hown, hts, hX, hbl, hlocks, hgv⟩ := C0
  have htt := hts
  have hts := fun w h => htt w (wsL_law_in w h)
  have hA : ∀ q : Nat, s.heap.size ≤ q → (fun q : Nat => s.heap.size ≤ q) q := fun _ h => h
  have hbA : ¬ (fun q : Nat => s.heap.size ≤ q) b := Nat.not_le.mpr hbl
  refine lv_aload_n hx hb dL_law_135 rfl (lv_at hl 1 rfl) ?_
  refine lv_aload_n hx hb dL_law_136 rfl (lv_at hl 0 rfl) ?_
  refine lv_iload_n hx hb dL_law_137 rfl (lv_at hl 3 rfl) ?_
  refine lv_iconst (v := nI 1) hx hb dL_law_138 (by decide) ?_
  refine lv_iadd hx hb dL_law_139 ?_
  refine zt (y := nI ((5 * c5) + 1)) (nI_add _ _) ?_
  refine va_sld hx hb hX hbl hbA hS (vp_in_nI (show (5 * c5) + 1 < L by omega) (by omega)) dL_law_140 ?_
  refine zt (y := xs ((5 * c5) + 1)) (by rw [nI_clamp (by omega)]) ?_
  refine lv_aload_n hx hb dL_law_141 rfl (lv_at hl 0 rfl) ?_
  refine lv_iload_n hx hb dL_law_142 rfl (lv_at hl 3 rfl) ?_
  refine lv_iconst (v := nI 2) hx hb dL_law_143 (by decide) ?_
  refine lv_iadd hx hb dL_law_144 ?_
  refine zt (y := nI ((5 * c5) + 2)) (nI_add _ _) ?_
  refine va_sld hx hb hX hbl hbA hS (vp_in_nI (show (5 * c5) + 2 < L by omega) (by omega)) dL_law_145 ?_
  refine zt (y := xs ((5 * c5) + 2)) (by rw [nI_clamp (by omega)]) ?_
  refine lv_aload_n hx hb dL_law_146 rfl (lv_at hl 0 rfl) ?_
  refine lv_iload_n hx hb dL_law_147 rfl (lv_at hl 3 rfl) ?_
  refine lv_iconst (v := nI 3) hx hb dL_law_148 (by decide) ?_
  refine lv_iadd hx hb dL_law_149 ?_
  refine zt (y := nI ((5 * c5) + 3)) (nI_add _ _) ?_
  refine va_sld hx hb hX hbl hbA hS (vp_in_nI (show (5 * c5) + 3 < L by omega) (by omega)) dL_law_150 ?_
  refine zt (y := xs ((5 * c5) + 3)) (by rw [nI_clamp (by omega)]) ?_
  refine lv_aload_n hx hb dL_law_151 rfl (lv_at hl 0 rfl) ?_
  refine lv_iload_n hx hb dL_law_152 rfl (lv_at hl 3 rfl) ?_
  refine lv_iconst (v := nI 4) hx hb dL_law_153 (by decide) ?_
  refine lv_iadd hx hb dL_law_154 ?_
  refine zt (y := nI ((5 * c5) + 4)) (nI_add _ _) ?_
  refine va_sld hx hb hX hbl hbA hS (vp_in_nI (show (5 * c5) + 4 < L by omega) (by omega)) dL_law_155 ?_
  refine zt (y := xs ((5 * c5) + 4)) (by rw [nI_clamp (by omega)]) ?_
  refine zwiL (wf := fun u : RS => wR g cI cT u) (va_runV (As := [.int (xs ((5 * c5) + 1)), .int (xs ((5 * c5) + 2)), .int (xs ((5 * c5) + 3)), .int (xs ((5 * c5) + 4))]) (rest := []) ⟨hx, hb, hml, hown, hts⟩ (c_Tree_some l dC dI cI cT g a (xs (5 * c5 + 1)) (xs (5 * c5 + 2)) (xs (5 * c5 + 3)) (xs (5 * c5 + 4)) H.size c5 hok (by omega)) (cwV 4 hts gL_law_X1_some rfl rfl rfl (by decide +kernel) ⟨Nat.le_of_ble_eq_true rfl, Nat.le_of_ble_eq_true rfl⟩) (zpreV hK (zPl hP) (zDl hD) rfl 0 rfl) rfl rfl hl.1 rfl (lv_room (Nat.le_of_ble_eq_true rfl)) dL_law_156 ⟨Nat.le_refl _, Nat.le_refl _⟩) hP hD hS hA (fun _ => rfl) (fun r1 u H locs hw1 hP hD hS => ?_)
  have hP : va_P (dC, dI) vwCl (wR g cI cT u ++ wM g2 cI w) H := hP
  have hD : va_D (fun q : Nat => s.heap.size ≤ q) (wR g cI cT u ++ wM g2 cI w) := hD
  refine lv_aload_n hx hb dL_law_159 rfl (lv_at hl 2 rfl) ?_
  refine lv_aload_n hx hb dL_law_160 rfl (lv_at hl 0 rfl) ?_
  refine lv_iload_n hx hb dL_law_161 rfl (lv_at hl 3 rfl) ?_
  refine lv_iconst (v := nI 1) hx hb dL_law_162 (by decide) ?_
  refine lv_iadd hx hb dL_law_163 ?_
  refine zt (y := nI ((5 * c5) + 1)) (nI_add _ _) ?_
  refine va_sld hx hb hX hbl hbA hS (vp_in_nI (show (5 * c5) + 1 < L by omega) (by omega)) dL_law_164 ?_
  refine zt (y := xs ((5 * c5) + 1)) (by rw [nI_clamp (by omega)]) ?_
  refine lv_aload_n hx hb dL_law_165 rfl (lv_at hl 0 rfl) ?_
  refine lv_iload_n hx hb dL_law_166 rfl (lv_at hl 3 rfl) ?_
  refine lv_iconst (v := nI 2) hx hb dL_law_167 (by decide) ?_
  refine lv_iadd hx hb dL_law_168 ?_
  refine zt (y := nI ((5 * c5) + 2)) (nI_add _ _) ?_
  refine va_sld hx hb hX hbl hbA hS (vp_in_nI (show (5 * c5) + 2 < L by omega) (by omega)) dL_law_169 ?_
  refine zt (y := xs ((5 * c5) + 2)) (by rw [nI_clamp (by omega)]) ?_
  refine lv_aload_n hx hb dL_law_170 rfl (lv_at hl 0 rfl) ?_
  refine lv_iload_n hx hb dL_law_171 rfl (lv_at hl 3 rfl) ?_
  refine lv_iconst (v := nI 3) hx hb dL_law_172 (by decide) ?_
  refine lv_iadd hx hb dL_law_173 ?_
  refine zt (y := nI ((5 * c5) + 3)) (nI_add _ _) ?_
  refine va_sld hx hb hX hbl hbA hS (vp_in_nI (show (5 * c5) + 3 < L by omega) (by omega)) dL_law_174 ?_
  refine zt (y := xs ((5 * c5) + 3)) (by rw [nI_clamp (by omega)]) ?_
  refine lv_aload_n hx hb dL_law_175 rfl (lv_at hl 0 rfl) ?_
  refine lv_iload_n hx hb dL_law_176 rfl (lv_at hl 3 rfl) ?_
  refine lv_iconst (v := nI 4) hx hb dL_law_177 (by decide) ?_
  refine lv_iadd hx hb dL_law_178 ?_
  refine zt (y := nI ((5 * c5) + 4)) (nI_add _ _) ?_
  refine va_sld hx hb hX hbl hbA hS (vp_in_nI (show (5 * c5) + 4 < L by omega) (by omega)) dL_law_179 ?_
  refine zt (y := xs ((5 * c5) + 4)) (by rw [nI_clamp (by omega)]) ?_
  refine zwiR (wf := fun u2 : MS => wM g2 cI u2) (va_runV (As := [.int (xs ((5 * c5) + 1)), .int (xs ((5 * c5) + 2)), .int (xs ((5 * c5) + 3)), .int (xs ((5 * c5) + 4))]) (rest := [.int r1]) ⟨hx, hb, hml, hown, hts⟩ (c_Model_some l dC dI cI cT g2 w (xs (5 * c5 + 1)) (xs (5 * c5 + 2)) (xs (5 * c5 + 3)) (xs (5 * c5 + 4)) H.size c5 (okR_eq heq hok) (by omega)) (cwV 4 hts gL_law_X2_some rfl rfl rfl (by decide +kernel) ⟨Nat.le_of_ble_eq_true rfl, Nat.le_of_ble_eq_true rfl⟩) (zpreV hK (zPr hP) (zDr hD) rfl 0 rfl) rfl rfl hl.1 rfl (lv_room (Nat.le_of_ble_eq_true rfl)) dL_law_180 ⟨Nat.le_refl _, Nat.le_refl _⟩) hP hD hS hA (fun _ => rfl) (fun r2 u2 H locs hw2 hP hD hS => ?_)
  have hP : va_P (dC, dI) vwCl (wR g cI cT u ++ wM g2 cI u2) H := hP
  have hD : va_D (fun q : Nat => s.heap.size ≤ q) (wR g cI cT u ++ wM g2 cI u2) := hD
  refine lv_icmp_eq (tgt := 417) hx hb dL_law_183 (by decide) (fun h_183 => ?_) (fun h_183 => absurd (hw1.1.trans ((aSome_eq heq (xs (5 * c5 + 1)) (xs (5 * c5 + 2)) (xs (5 * c5 + 3)) (xs (5 * c5 + 4))).1.trans hw2.1.symm)) h_183)
  exact kk u u2 _ _ _ (okR_up (okR_eq (eqR_sy hw1.2) (aSome_ok hok (xs (5 * c5 + 1)) (xs (5 * c5 + 2)) (xs (5 * c5 + 3)) (xs (5 * c5 + 4)))) (Nat.le_succ c5)) (eqR_tr hw1.2 (eqR_tr (aSome_eq heq (xs (5 * c5 + 1)) (xs (5 * c5 + 2)) (xs (5 * c5 + 3)) (xs (5 * c5 + 4))).2 (eqR_sy hw2.2))) hP hD hS (lv_sub hl [0, 1, 2, 3] rfl)
set_option maxHeartbeats 4000000 in
set_option maxRecDepth 100000 in
/-- the law, case 2: remove -/
theorem law_remove {p : Program} {l : Launch} {e : Env} {s : State} {m : MethodId} {below : List Frame} {meth : Method} {c : Code} {dC : Nat → ClassId} {dI : Nat → Nat → Nat} {cI cT : ClassId} {b L : Nat} {xs : Nat → Int32} {g g2 : Nat → Nat} (hL : L ≤ 2560) (C0 : lw_At p s m meth c b L xs) (hK : va_K (dC, dI) vwCl (zTY cI cT) s) {c5 : Nat} (h5 : 5 * c5 + 5 ≤ L) {a : RS} {w : MS} (hok : okR c5 a) (heq : eqR a (view w)) {H : Heap} {locs : List Loc} {ls : Array Slot} (hP : va_P (dC, dI) vwCl (wR g cI cT a ++ wM g2 cI w) H) (hD : va_D (fun q : Nat => s.heap.size ≤ q) (wR g cI cT a ++ wM g2 cI w)) (hS : va_S (fun q : Nat => s.heap.size ≤ q) s.heap H locs) (hl : lv_has ls 4 [(0, .ref b), (1, .ref (g 0)), (2, .ref (g2 0)), (3, .int (nI (5 * c5)))])
    (kk : ∀ (a : RS) (w : MS) (H : Heap) (locs : List Loc) (ls : Array Slot), okR (c5 + 1) a → eqR a (view w) → va_P (dC, dI) vwCl (wR g cI cT a ++ wM g2 cI w) H → va_D (fun q : Nat => s.heap.size ≤ q) (wR g cI cT a ++ wM g2 cI w) → va_S (fun q : Nat => s.heap.size ≤ q) s.heap H locs → lv_has ls 4 [(0, .ref b), (1, .ref (g 0)), (2, .ref (g2 0)), (3, .int (nI (5 * c5)))] → W p l e room_1 s m #[Value.ref b] below meth c H locs 600000 7302250 (lw_Z below #[Value.ref b] s) (F0 m 417 ls [])) : W p l e room_1 s m #[Value.ref b] below meth c H locs 600000 7302250 (lw_Z below #[Value.ref b] s) (F0 m 188 ls []) := by
  obtain ⟨hx, hb, hr, hml, hown, hts, hX, hbl, hlocks, hgv⟩ := C0
  have htt := hts
  have hts := fun w h => htt w (wsL_law_in w h)
  have hA : ∀ q : Nat, s.heap.size ≤ q → (fun q : Nat => s.heap.size ≤ q) q := fun _ h => h
  have hbA : ¬ (fun q : Nat => s.heap.size ≤ q) b := Nat.not_le.mpr hbl
  refine lv_aload_n hx hb dL_law_188 rfl (lv_at hl 1 rfl) ?_
  refine lv_aload_n hx hb dL_law_189 rfl (lv_at hl 0 rfl) ?_
  refine lv_iload_n hx hb dL_law_190 rfl (lv_at hl 3 rfl) ?_
  refine lv_iconst (v := nI 1) hx hb dL_law_191 (by decide) ?_
  refine lv_iadd hx hb dL_law_192 ?_
  refine zt (y := nI ((5 * c5) + 1)) (nI_add _ _) ?_
  refine va_sld hx hb hX hbl hbA hS (vp_in_nI (show (5 * c5) + 1 < L by omega) (by omega)) dL_law_193 ?_
  refine zt (y := xs ((5 * c5) + 1)) (by rw [nI_clamp (by omega)]) ?_
  refine zwiL (wf := fun u : RS => wR g cI cT u) (va_runV (As := [.int (xs ((5 * c5) + 1))]) (rest := []) ⟨hx, hb, hml, hown, hts⟩ (c_Tree_remove l dC dI cI cT g a (xs (5 * c5 + 1)) H.size c5 hok (by omega)) (cwV 1 hts gL_law_X1_remove rfl rfl rfl (by decide +kernel) ⟨Nat.le_of_ble_eq_true rfl, Nat.le_of_ble_eq_true rfl⟩) (zpreV hK (zPl hP) (zDl hD) rfl 0 rfl) rfl rfl hl.1 rfl (lv_room (Nat.le_of_ble_eq_true rfl)) dL_law_194 ⟨Nat.le_refl _, Nat.le_refl _⟩) hP hD hS hA (fun _ => rfl) (fun r1 u H locs hw1 hP hD hS => ?_)
  have hP : va_P (dC, dI) vwCl (wR g cI cT u ++ wM g2 cI w) H := hP
  have hD : va_D (fun q : Nat => s.heap.size ≤ q) (wR g cI cT u ++ wM g2 cI w) := hD
  refine lv_aload_n hx hb dL_law_197 rfl (lv_at hl 2 rfl) ?_
  refine lv_aload_n hx hb dL_law_198 rfl (lv_at hl 0 rfl) ?_
  refine lv_iload_n hx hb dL_law_199 rfl (lv_at hl 3 rfl) ?_
  refine lv_iconst (v := nI 1) hx hb dL_law_200 (by decide) ?_
  refine lv_iadd hx hb dL_law_201 ?_
  refine zt (y := nI ((5 * c5) + 1)) (nI_add _ _) ?_
  refine va_sld hx hb hX hbl hbA hS (vp_in_nI (show (5 * c5) + 1 < L by omega) (by omega)) dL_law_202 ?_
  refine zt (y := xs ((5 * c5) + 1)) (by rw [nI_clamp (by omega)]) ?_
  refine zwiR (wf := fun u2 : MS => wM g2 cI u2) (va_runV (As := [.int (xs ((5 * c5) + 1))]) (rest := [.int r1]) ⟨hx, hb, hml, hown, hts⟩ (c_Model_remove l dC dI cI cT g2 w (xs (5 * c5 + 1)) H.size c5 (okR_eq heq hok) (by omega)) (cwV 1 hts gL_law_X2_remove rfl rfl rfl (by decide +kernel) ⟨Nat.le_of_ble_eq_true rfl, Nat.le_of_ble_eq_true rfl⟩) (zpreV hK (zPr hP) (zDr hD) rfl 0 rfl) rfl rfl hl.1 rfl (lv_room (Nat.le_of_ble_eq_true rfl)) dL_law_203 ⟨Nat.le_refl _, Nat.le_refl _⟩) hP hD hS hA (fun _ => rfl) (fun r2 u2 H locs hw2 hP hD hS => ?_)
  have hP : va_P (dC, dI) vwCl (wR g cI cT u ++ wM g2 cI u2) H := hP
  have hD : va_D (fun q : Nat => s.heap.size ≤ q) (wR g cI cT u ++ wM g2 cI u2) := hD
  refine lv_icmp_eq (tgt := 417) hx hb dL_law_206 (by decide) (fun h_206 => ?_) (fun h_206 => absurd (hw1.1.trans ((aRemove_eq heq (xs (5 * c5 + 1))).1.trans hw2.1.symm)) h_206)
  exact kk u u2 _ _ _ (okR_up (okR_eq (eqR_sy hw1.2) (aRemove_ok hok (xs (5 * c5 + 1)))) (Nat.le_succ c5)) (eqR_tr hw1.2 (eqR_tr (aRemove_eq heq (xs (5 * c5 + 1))).2 (eqR_sy hw2.2))) hP hD hS (lv_sub hl [0, 1, 2, 3] rfl)
set_option maxHeartbeats 4000000 in
set_option maxRecDepth 100000 in
/-- the law, case 3: commit -/
theorem law_commit {p : Program} {l : Launch} {e : Env} {s : State} {m : MethodId} {below : List Frame} {meth : Method} {c : Code} {dC : Nat → ClassId} {dI : Nat → Nat → Nat} {cI cT : ClassId} {b L : Nat} {xs : Nat → Int32} {g g2 : Nat → Nat} (hL : L ≤ 2560) (C0 : lw_At p s m meth c b L xs) (hK : va_K (dC, dI) vwCl (zTY cI cT) s) {c5 : Nat} (h5 : 5 * c5 + 5 ≤ L) {a : RS} {w : MS} (hok : okR c5 a) (heq : eqR a (view w)) {H : Heap} {locs : List Loc} {ls : Array Slot} (hP : va_P (dC, dI) vwCl (wR g cI cT a ++ wM g2 cI w) H) (hD : va_D (fun q : Nat => s.heap.size ≤ q) (wR g cI cT a ++ wM g2 cI w)) (hS : va_S (fun q : Nat => s.heap.size ≤ q) s.heap H locs) (hl : lv_has ls 4 [(0, .ref b), (1, .ref (g 0)), (2, .ref (g2 0)), (3, .int (nI (5 * c5)))])
    (kk : ∀ (a : RS) (w : MS) (H : Heap) (locs : List Loc) (ls : Array Slot), okR (c5 + 1) a → eqR a (view w) → va_P (dC, dI) vwCl (wR g cI cT a ++ wM g2 cI w) H → va_D (fun q : Nat => s.heap.size ≤ q) (wR g cI cT a ++ wM g2 cI w) → va_S (fun q : Nat => s.heap.size ≤ q) s.heap H locs → lv_has ls 4 [(0, .ref b), (1, .ref (g 0)), (2, .ref (g2 0)), (3, .int (nI (5 * c5)))] → W p l e room_1 s m #[Value.ref b] below meth c H locs 600000 7302250 (lw_Z below #[Value.ref b] s) (F0 m 417 ls [])) : W p l e room_1 s m #[Value.ref b] below meth c H locs 600000 7302250 (lw_Z below #[Value.ref b] s) (F0 m 211 ls []) := by
  obtain ⟨hx, hb, hr, hml, hown, hts, hX, hbl, hlocks, hgv⟩ := C0
  have htt := hts
  have hts := fun w h => htt w (wsL_law_in w h)
  have hA : ∀ q : Nat, s.heap.size ≤ q → (fun q : Nat => s.heap.size ≤ q) q := fun _ h => h
  have hbA : ¬ (fun q : Nat => s.heap.size ≤ q) b := Nat.not_le.mpr hbl
  refine lv_aload_n hx hb dL_law_211 rfl (lv_at hl 1 rfl) ?_
  refine lv_aload_n hx hb dL_law_212 rfl (lv_at hl 0 rfl) ?_
  refine lv_iload_n hx hb dL_law_213 rfl (lv_at hl 3 rfl) ?_
  refine lv_iconst (v := nI 1) hx hb dL_law_214 (by decide) ?_
  refine lv_iadd hx hb dL_law_215 ?_
  refine zt (y := nI ((5 * c5) + 1)) (nI_add _ _) ?_
  refine va_sld hx hb hX hbl hbA hS (vp_in_nI (show (5 * c5) + 1 < L by omega) (by omega)) dL_law_216 ?_
  refine zt (y := xs ((5 * c5) + 1)) (by rw [nI_clamp (by omega)]) ?_
  refine zwiL (wf := fun u : RS => wR g cI cT u) (va_runV (As := [.int (xs ((5 * c5) + 1))]) (rest := []) ⟨hx, hb, hml, hown, hts⟩ (c_Tree_commit l dC dI cI cT g a (xs (5 * c5 + 1)) H.size c5 hok (by omega)) (cwV 1 hts gL_law_X1_commit rfl rfl rfl (by decide +kernel) ⟨Nat.le_of_ble_eq_true rfl, Nat.le_of_ble_eq_true rfl⟩) (zpreV hK (zPl hP) (zDl hD) rfl 0 rfl) rfl rfl hl.1 rfl (lv_room (Nat.le_of_ble_eq_true rfl)) dL_law_217 ⟨Nat.le_refl _, Nat.le_refl _⟩) hP hD hS hA (fun _ => rfl) (fun r1 u H locs hw1 hP hD hS => ?_)
  have hP : va_P (dC, dI) vwCl (wR g cI cT u ++ wM g2 cI w) H := hP
  have hD : va_D (fun q : Nat => s.heap.size ≤ q) (wR g cI cT u ++ wM g2 cI w) := hD
  refine lv_aload_n hx hb dL_law_220 rfl (lv_at hl 2 rfl) ?_
  refine lv_aload_n hx hb dL_law_221 rfl (lv_at hl 0 rfl) ?_
  refine lv_iload_n hx hb dL_law_222 rfl (lv_at hl 3 rfl) ?_
  refine lv_iconst (v := nI 1) hx hb dL_law_223 (by decide) ?_
  refine lv_iadd hx hb dL_law_224 ?_
  refine zt (y := nI ((5 * c5) + 1)) (nI_add _ _) ?_
  refine va_sld hx hb hX hbl hbA hS (vp_in_nI (show (5 * c5) + 1 < L by omega) (by omega)) dL_law_225 ?_
  refine zt (y := xs ((5 * c5) + 1)) (by rw [nI_clamp (by omega)]) ?_
  refine zwiR (wf := fun u2 : MS => wM g2 cI u2) (va_runV (As := [.int (xs ((5 * c5) + 1))]) (rest := [.int r1]) ⟨hx, hb, hml, hown, hts⟩ (c_Model_commit l dC dI cI cT g2 w (xs (5 * c5 + 1)) H.size c5 (okR_eq heq hok) (by omega)) (cwV 1 hts gL_law_X2_commit rfl rfl rfl (by decide +kernel) ⟨Nat.le_of_ble_eq_true rfl, Nat.le_of_ble_eq_true rfl⟩) (zpreV hK (zPr hP) (zDr hD) rfl 0 rfl) rfl rfl hl.1 rfl (lv_room (Nat.le_of_ble_eq_true rfl)) dL_law_226 ⟨Nat.le_refl _, Nat.le_refl _⟩) hP hD hS hA (fun _ => rfl) (fun r2 u2 H locs hw2 hP hD hS => ?_)
  have hP : va_P (dC, dI) vwCl (wR g cI cT u ++ wM g2 cI u2) H := hP
  have hD : va_D (fun q : Nat => s.heap.size ≤ q) (wR g cI cT u ++ wM g2 cI u2) := hD
  refine lv_icmp_eq (tgt := 417) hx hb dL_law_229 (by decide) (fun h_229 => ?_) (fun h_229 => absurd (hw1.1.trans ((aCommit_eq heq (xs (5 * c5 + 1))).1.trans hw2.1.symm)) h_229)
  exact kk u u2 _ _ _ (okR_eq (eqR_sy hw1.2) (aCommit_ok hok (xs (5 * c5 + 1)))) (eqR_tr hw1.2 (eqR_tr (aCommit_eq heq (xs (5 * c5 + 1))).2 (eqR_sy hw2.2))) hP hD hS (lv_sub hl [0, 1, 2, 3] rfl)
set_option maxHeartbeats 4000000 in
set_option maxRecDepth 100000 in
/-- the law, case 4: forget -/
theorem law_forget {p : Program} {l : Launch} {e : Env} {s : State} {m : MethodId} {below : List Frame} {meth : Method} {c : Code} {dC : Nat → ClassId} {dI : Nat → Nat → Nat} {cI cT : ClassId} {b L : Nat} {xs : Nat → Int32} {g g2 : Nat → Nat} (hL : L ≤ 2560) (C0 : lw_At p s m meth c b L xs) (hK : va_K (dC, dI) vwCl (zTY cI cT) s) {c5 : Nat} (h5 : 5 * c5 + 5 ≤ L) {a : RS} {w : MS} (hok : okR c5 a) (heq : eqR a (view w)) {H : Heap} {locs : List Loc} {ls : Array Slot} (hP : va_P (dC, dI) vwCl (wR g cI cT a ++ wM g2 cI w) H) (hD : va_D (fun q : Nat => s.heap.size ≤ q) (wR g cI cT a ++ wM g2 cI w)) (hS : va_S (fun q : Nat => s.heap.size ≤ q) s.heap H locs) (hl : lv_has ls 4 [(0, .ref b), (1, .ref (g 0)), (2, .ref (g2 0)), (3, .int (nI (5 * c5)))])
    (kk : ∀ (a : RS) (w : MS) (H : Heap) (locs : List Loc) (ls : Array Slot), okR (c5 + 1) a → eqR a (view w) → va_P (dC, dI) vwCl (wR g cI cT a ++ wM g2 cI w) H → va_D (fun q : Nat => s.heap.size ≤ q) (wR g cI cT a ++ wM g2 cI w) → va_S (fun q : Nat => s.heap.size ≤ q) s.heap H locs → lv_has ls 4 [(0, .ref b), (1, .ref (g 0)), (2, .ref (g2 0)), (3, .int (nI (5 * c5)))] → W p l e room_1 s m #[Value.ref b] below meth c H locs 600000 7302250 (lw_Z below #[Value.ref b] s) (F0 m 417 ls [])) : W p l e room_1 s m #[Value.ref b] below meth c H locs 600000 7302250 (lw_Z below #[Value.ref b] s) (F0 m 234 ls []) := by
  obtain ⟨hx, hb, hr, hml, hown, hts, hX, hbl, hlocks, hgv⟩ := C0
  have htt := hts
  have hts := fun w h => htt w (wsL_law_in w h)
  have hA : ∀ q : Nat, s.heap.size ≤ q → (fun q : Nat => s.heap.size ≤ q) q := fun _ h => h
  have hbA : ¬ (fun q : Nat => s.heap.size ≤ q) b := Nat.not_le.mpr hbl
  refine lv_aload_n hx hb dL_law_234 rfl (lv_at hl 1 rfl) ?_
  refine zwiL (wf := fun u : RS => wR g cI cT u) (va_runV (As := []) (rest := []) ⟨hx, hb, hml, hown, hts⟩ (c_Tree_forget l dC dI cI cT g a  H.size c5 hok (by omega)) (cwV 0 hts gL_law_X1_forget rfl rfl rfl (by decide +kernel) ⟨Nat.le_of_ble_eq_true rfl, Nat.le_of_ble_eq_true rfl⟩) (zpreV hK (zPl hP) (zDl hD) rfl 0 rfl) rfl rfl hl.1 rfl (lv_room (Nat.le_of_ble_eq_true rfl)) dL_law_235 ⟨Nat.le_refl _, Nat.le_refl _⟩) hP hD hS hA (fun _ => rfl) (fun r1 u H locs hw1 hP hD hS => ?_)
  have hP : va_P (dC, dI) vwCl (wR g cI cT u ++ wM g2 cI w) H := hP
  have hD : va_D (fun q : Nat => s.heap.size ≤ q) (wR g cI cT u ++ wM g2 cI w) := hD
  refine lv_aload_n hx hb dL_law_238 rfl (lv_at hl 2 rfl) ?_
  refine zwiR (wf := fun u2 : MS => wM g2 cI u2) (va_runV (As := []) (rest := [.int r1]) ⟨hx, hb, hml, hown, hts⟩ (c_Model_forget l dC dI cI cT g2 w  H.size c5 (okR_eq heq hok) (by omega)) (cwV 0 hts gL_law_X2_forget rfl rfl rfl (by decide +kernel) ⟨Nat.le_of_ble_eq_true rfl, Nat.le_of_ble_eq_true rfl⟩) (zpreV hK (zPr hP) (zDr hD) rfl 0 rfl) rfl rfl hl.1 rfl (lv_room (Nat.le_of_ble_eq_true rfl)) dL_law_239 ⟨Nat.le_refl _, Nat.le_refl _⟩) hP hD hS hA (fun _ => rfl) (fun r2 u2 H locs hw2 hP hD hS => ?_)
  have hP : va_P (dC, dI) vwCl (wR g cI cT u ++ wM g2 cI u2) H := hP
  have hD : va_D (fun q : Nat => s.heap.size ≤ q) (wR g cI cT u ++ wM g2 cI u2) := hD
  refine lv_icmp_eq (tgt := 417) hx hb dL_law_242 (by decide) (fun h_242 => ?_) (fun h_242 => absurd (hw1.1.trans ((aForget_eq heq ).1.trans hw2.1.symm)) h_242)
  exact kk u u2 _ _ _ (okR_up (okR_eq (eqR_sy hw1.2) (aForget_ok hok )) (Nat.le_succ c5)) (eqR_tr hw1.2 (eqR_tr (aForget_eq heq ).2 (eqR_sy hw2.2))) hP hD hS (lv_sub hl [0, 1, 2, 3] rfl)
set_option maxHeartbeats 4000000 in
set_option maxRecDepth 100000 in
/-- the law, case 5: open -/
theorem law_open {p : Program} {l : Launch} {e : Env} {s : State} {m : MethodId} {below : List Frame} {meth : Method} {c : Code} {dC : Nat → ClassId} {dI : Nat → Nat → Nat} {cI cT : ClassId} {b L : Nat} {xs : Nat → Int32} {g g2 : Nat → Nat} (hL : L ≤ 2560) (C0 : lw_At p s m meth c b L xs) (hK : va_K (dC, dI) vwCl (zTY cI cT) s) {c5 : Nat} (h5 : 5 * c5 + 5 ≤ L) {a : RS} {w : MS} (hok : okR c5 a) (heq : eqR a (view w)) {H : Heap} {locs : List Loc} {ls : Array Slot} (hP : va_P (dC, dI) vwCl (wR g cI cT a ++ wM g2 cI w) H) (hD : va_D (fun q : Nat => s.heap.size ≤ q) (wR g cI cT a ++ wM g2 cI w)) (hS : va_S (fun q : Nat => s.heap.size ≤ q) s.heap H locs) (hl : lv_has ls 4 [(0, .ref b), (1, .ref (g 0)), (2, .ref (g2 0)), (3, .int (nI (5 * c5)))])
    (kk : ∀ (a : RS) (w : MS) (H : Heap) (locs : List Loc) (ls : Array Slot), okR (c5 + 1) a → eqR a (view w) → va_P (dC, dI) vwCl (wR g cI cT a ++ wM g2 cI w) H → va_D (fun q : Nat => s.heap.size ≤ q) (wR g cI cT a ++ wM g2 cI w) → va_S (fun q : Nat => s.heap.size ≤ q) s.heap H locs → lv_has ls 4 [(0, .ref b), (1, .ref (g 0)), (2, .ref (g2 0)), (3, .int (nI (5 * c5)))] → W p l e room_1 s m #[Value.ref b] below meth c H locs 600000 7302250 (lw_Z below #[Value.ref b] s) (F0 m 417 ls [])) : W p l e room_1 s m #[Value.ref b] below meth c H locs 600000 7302250 (lw_Z below #[Value.ref b] s) (F0 m 247 ls []) := by
  obtain ⟨hx, hb, hr, hml, hown, hts, hX, hbl, hlocks, hgv⟩ := C0
  have htt := hts
  have hts := fun w h => htt w (wsL_law_in w h)
  have hA : ∀ q : Nat, s.heap.size ≤ q → (fun q : Nat => s.heap.size ≤ q) q := fun _ h => h
  have hbA : ¬ (fun q : Nat => s.heap.size ≤ q) b := Nat.not_le.mpr hbl
  refine lv_aload_n hx hb dL_law_247 rfl (lv_at hl 1 rfl) ?_
  refine lv_aload_n hx hb dL_law_248 rfl (lv_at hl 0 rfl) ?_
  refine lv_iload_n hx hb dL_law_249 rfl (lv_at hl 3 rfl) ?_
  refine lv_iconst (v := nI 1) hx hb dL_law_250 (by decide) ?_
  refine lv_iadd hx hb dL_law_251 ?_
  refine zt (y := nI ((5 * c5) + 1)) (nI_add _ _) ?_
  refine va_sld hx hb hX hbl hbA hS (vp_in_nI (show (5 * c5) + 1 < L by omega) (by omega)) dL_law_252 ?_
  refine zt (y := xs ((5 * c5) + 1)) (by rw [nI_clamp (by omega)]) ?_
  refine zwiL (wf := fun u : RS => wR g cI cT u) (va_runV (As := [.int (xs ((5 * c5) + 1))]) (rest := []) ⟨hx, hb, hml, hown, hts⟩ (c_Tree_open l dC dI cI cT g a (xs (5 * c5 + 1)) H.size c5 hok (by omega)) (cwV 1 hts gL_law_X1_open rfl rfl rfl (by decide +kernel) ⟨Nat.le_of_ble_eq_true rfl, Nat.le_of_ble_eq_true rfl⟩) (zpreV hK (zPl hP) (zDl hD) rfl 0 rfl) rfl rfl hl.1 rfl (lv_room (Nat.le_of_ble_eq_true rfl)) dL_law_253 ⟨Nat.le_refl _, Nat.le_refl _⟩) hP hD hS hA (fun _ => rfl) (fun r1 u H locs hw1 hP hD hS => ?_)
  have hP : va_P (dC, dI) vwCl (wR g cI cT u ++ wM g2 cI w) H := hP
  have hD : va_D (fun q : Nat => s.heap.size ≤ q) (wR g cI cT u ++ wM g2 cI w) := hD
  refine lv_aload_n hx hb dL_law_256 rfl (lv_at hl 2 rfl) ?_
  refine lv_aload_n hx hb dL_law_257 rfl (lv_at hl 0 rfl) ?_
  refine lv_iload_n hx hb dL_law_258 rfl (lv_at hl 3 rfl) ?_
  refine lv_iconst (v := nI 1) hx hb dL_law_259 (by decide) ?_
  refine lv_iadd hx hb dL_law_260 ?_
  refine zt (y := nI ((5 * c5) + 1)) (nI_add _ _) ?_
  refine va_sld hx hb hX hbl hbA hS (vp_in_nI (show (5 * c5) + 1 < L by omega) (by omega)) dL_law_261 ?_
  refine zt (y := xs ((5 * c5) + 1)) (by rw [nI_clamp (by omega)]) ?_
  refine zwiR (wf := fun u2 : MS => wM g2 cI u2) (va_runV (As := [.int (xs ((5 * c5) + 1))]) (rest := [.int r1]) ⟨hx, hb, hml, hown, hts⟩ (c_Model_open l dC dI cI cT g2 w (xs (5 * c5 + 1)) H.size c5 (okR_eq heq hok) (by omega)) (cwV 1 hts gL_law_X2_open rfl rfl rfl (by decide +kernel) ⟨Nat.le_of_ble_eq_true rfl, Nat.le_of_ble_eq_true rfl⟩) (zpreV hK (zPr hP) (zDr hD) rfl 0 rfl) rfl rfl hl.1 rfl (lv_room (Nat.le_of_ble_eq_true rfl)) dL_law_262 ⟨Nat.le_refl _, Nat.le_refl _⟩) hP hD hS hA (fun _ => rfl) (fun r2 u2 H locs hw2 hP hD hS => ?_)
  have hP : va_P (dC, dI) vwCl (wR g cI cT u ++ wM g2 cI u2) H := hP
  have hD : va_D (fun q : Nat => s.heap.size ≤ q) (wR g cI cT u ++ wM g2 cI u2) := hD
  refine lv_icmp_eq (tgt := 417) hx hb dL_law_265 (by decide) (fun h_265 => ?_) (fun h_265 => absurd (hw1.1.trans ((aOpen_eq heq (xs (5 * c5 + 1))).1.trans hw2.1.symm)) h_265)
  exact kk u u2 _ _ _ (okR_up (okR_eq (eqR_sy hw1.2) (aOpen_ok hok (xs (5 * c5 + 1)))) (Nat.le_succ c5)) (eqR_tr hw1.2 (eqR_tr (aOpen_eq heq (xs (5 * c5 + 1))).2 (eqR_sy hw2.2))) hP hD hS (lv_sub hl [0, 1, 2, 3] rfl)
set_option maxHeartbeats 4000000 in
set_option maxRecDepth 100000 in
/-- the law, case 6: get -/
theorem law_get {p : Program} {l : Launch} {e : Env} {s : State} {m : MethodId} {below : List Frame} {meth : Method} {c : Code} {dC : Nat → ClassId} {dI : Nat → Nat → Nat} {cI cT : ClassId} {b L : Nat} {xs : Nat → Int32} {g g2 : Nat → Nat} (hL : L ≤ 2560) (C0 : lw_At p s m meth c b L xs) (hK : va_K (dC, dI) vwCl (zTY cI cT) s) {c5 : Nat} (h5 : 5 * c5 + 5 ≤ L) {a : RS} {w : MS} (hok : okR c5 a) (heq : eqR a (view w)) {H : Heap} {locs : List Loc} {ls : Array Slot} (hP : va_P (dC, dI) vwCl (wR g cI cT a ++ wM g2 cI w) H) (hD : va_D (fun q : Nat => s.heap.size ≤ q) (wR g cI cT a ++ wM g2 cI w)) (hS : va_S (fun q : Nat => s.heap.size ≤ q) s.heap H locs) (hl : lv_has ls 4 [(0, .ref b), (1, .ref (g 0)), (2, .ref (g2 0)), (3, .int (nI (5 * c5)))])
    (kk : ∀ (a : RS) (w : MS) (H : Heap) (locs : List Loc) (ls : Array Slot), okR (c5 + 1) a → eqR a (view w) → va_P (dC, dI) vwCl (wR g cI cT a ++ wM g2 cI w) H → va_D (fun q : Nat => s.heap.size ≤ q) (wR g cI cT a ++ wM g2 cI w) → va_S (fun q : Nat => s.heap.size ≤ q) s.heap H locs → lv_has ls 4 [(0, .ref b), (1, .ref (g 0)), (2, .ref (g2 0)), (3, .int (nI (5 * c5)))] → W p l e room_1 s m #[Value.ref b] below meth c H locs 600000 7302250 (lw_Z below #[Value.ref b] s) (F0 m 417 ls [])) : W p l e room_1 s m #[Value.ref b] below meth c H locs 600000 7302250 (lw_Z below #[Value.ref b] s) (F0 m 270 ls []) := by
  obtain ⟨hx, hb, hr, hml, hown, hts, hX, hbl, hlocks, hgv⟩ := C0
  have htt := hts
  have hts := fun w h => htt w (wsL_law_in w h)
  have hA : ∀ q : Nat, s.heap.size ≤ q → (fun q : Nat => s.heap.size ≤ q) q := fun _ h => h
  have hbA : ¬ (fun q : Nat => s.heap.size ≤ q) b := Nat.not_le.mpr hbl
  refine lv_aload_n hx hb dL_law_270 rfl (lv_at hl 1 rfl) ?_
  refine lv_aload_n hx hb dL_law_271 rfl (lv_at hl 0 rfl) ?_
  refine lv_iload_n hx hb dL_law_272 rfl (lv_at hl 3 rfl) ?_
  refine lv_iconst (v := nI 1) hx hb dL_law_273 (by decide) ?_
  refine lv_iadd hx hb dL_law_274 ?_
  refine zt (y := nI ((5 * c5) + 1)) (nI_add _ _) ?_
  refine va_sld hx hb hX hbl hbA hS (vp_in_nI (show (5 * c5) + 1 < L by omega) (by omega)) dL_law_275 ?_
  refine zt (y := xs ((5 * c5) + 1)) (by rw [nI_clamp (by omega)]) ?_
  refine lv_aload_n hx hb dL_law_276 rfl (lv_at hl 0 rfl) ?_
  refine lv_iload_n hx hb dL_law_277 rfl (lv_at hl 3 rfl) ?_
  refine lv_iconst (v := nI 2) hx hb dL_law_278 (by decide) ?_
  refine lv_iadd hx hb dL_law_279 ?_
  refine zt (y := nI ((5 * c5) + 2)) (nI_add _ _) ?_
  refine va_sld hx hb hX hbl hbA hS (vp_in_nI (show (5 * c5) + 2 < L by omega) (by omega)) dL_law_280 ?_
  refine zt (y := xs ((5 * c5) + 2)) (by rw [nI_clamp (by omega)]) ?_
  refine zrol (va_runV (As := [.int (xs ((5 * c5) + 1)), .int (xs ((5 * c5) + 2))]) (rest := []) ⟨hx, hb, hml, hown, hts⟩ (c_Tree_get l dC dI cI cT g a (xs (5 * c5 + 1)) (xs (5 * c5 + 2)) H.size c5 hok (by omega)) (cwV 2 hts gL_law_X1_get rfl rfl rfl (by decide +kernel) ⟨Nat.le_of_ble_eq_true rfl, Nat.le_of_ble_eq_true rfl⟩) (zpreV hK (zPl hP) (zDl hD) rfl 0 rfl) rfl rfl hl.1 rfl (lv_room (Nat.le_of_ble_eq_true rfl)) dL_law_281 ⟨Nat.le_refl _, Nat.le_refl _⟩) hP hS hA (fun H locs hP hS => ?_)
  refine lv_aload_n hx hb dL_law_284 rfl (lv_at hl 2 rfl) ?_
  refine lv_aload_n hx hb dL_law_285 rfl (lv_at hl 0 rfl) ?_
  refine lv_iload_n hx hb dL_law_286 rfl (lv_at hl 3 rfl) ?_
  refine lv_iconst (v := nI 1) hx hb dL_law_287 (by decide) ?_
  refine lv_iadd hx hb dL_law_288 ?_
  refine zt (y := nI ((5 * c5) + 1)) (nI_add _ _) ?_
  refine va_sld hx hb hX hbl hbA hS (vp_in_nI (show (5 * c5) + 1 < L by omega) (by omega)) dL_law_289 ?_
  refine zt (y := xs ((5 * c5) + 1)) (by rw [nI_clamp (by omega)]) ?_
  refine lv_aload_n hx hb dL_law_290 rfl (lv_at hl 0 rfl) ?_
  refine lv_iload_n hx hb dL_law_291 rfl (lv_at hl 3 rfl) ?_
  refine lv_iconst (v := nI 2) hx hb dL_law_292 (by decide) ?_
  refine lv_iadd hx hb dL_law_293 ?_
  refine zt (y := nI ((5 * c5) + 2)) (nI_add _ _) ?_
  refine va_sld hx hb hX hbl hbA hS (vp_in_nI (show (5 * c5) + 2 < L by omega) (by omega)) dL_law_294 ?_
  refine zt (y := xs ((5 * c5) + 2)) (by rw [nI_clamp (by omega)]) ?_
  refine zrol (va_runV (As := [.int (xs ((5 * c5) + 1)), .int (xs ((5 * c5) + 2))]) (rest := [.long (aGet a (xs (5 * c5 + 1)) (xs (5 * c5 + 2)))]) ⟨hx, hb, hml, hown, hts⟩ (c_Model_get l dC dI cI cT g2 w (xs (5 * c5 + 1)) (xs (5 * c5 + 2)) H.size c5 (okR_eq heq hok) (by omega)) (cwV 2 hts gL_law_X2_get rfl rfl rfl (by decide +kernel) ⟨Nat.le_of_ble_eq_true rfl, Nat.le_of_ble_eq_true rfl⟩) (zpreV hK (zPr hP) (zDr hD) rfl 0 rfl) rfl rfl hl.1 rfl (lv_room (Nat.le_of_ble_eq_true rfl)) dL_law_295 ⟨Nat.le_refl _, Nat.le_refl _⟩) hP hS hA (fun H locs hP hS => ?_)
  refine ztr (y := .long (aGet a (xs (5 * c5 + 1)) (xs (5 * c5 + 2)))) (by rw [aGet_eq heq]) ?_
  refine W.lcmp hx hb dL_law_298 ?_
  refine zt (y := nI 0) (z_cmp _) ?_
  refine lv_if_eq (tgt := 417) hx hb dL_law_299 (by decide) (fun h_299 => ?_) (fun h_299 => absurd (by decide) h_299)
  exact kk a w _ _ _ (okR_up hok (Nat.le_succ c5)) heq hP hD hS (lv_sub hl [0, 1, 2, 3] rfl)
set_option maxHeartbeats 4000000 in
set_option maxRecDepth 100000 in
/-- the law, case 7: next -/
theorem law_next {p : Program} {l : Launch} {e : Env} {s : State} {m : MethodId} {below : List Frame} {meth : Method} {c : Code} {dC : Nat → ClassId} {dI : Nat → Nat → Nat} {cI cT : ClassId} {b L : Nat} {xs : Nat → Int32} {g g2 : Nat → Nat} (hL : L ≤ 2560) (C0 : lw_At p s m meth c b L xs) (hK : va_K (dC, dI) vwCl (zTY cI cT) s) {c5 : Nat} (h5 : 5 * c5 + 5 ≤ L) {a : RS} {w : MS} (hok : okR c5 a) (heq : eqR a (view w)) {H : Heap} {locs : List Loc} {ls : Array Slot} (hP : va_P (dC, dI) vwCl (wR g cI cT a ++ wM g2 cI w) H) (hD : va_D (fun q : Nat => s.heap.size ≤ q) (wR g cI cT a ++ wM g2 cI w)) (hS : va_S (fun q : Nat => s.heap.size ≤ q) s.heap H locs) (hl : lv_has ls 4 [(0, .ref b), (1, .ref (g 0)), (2, .ref (g2 0)), (3, .int (nI (5 * c5)))])
    (kk : ∀ (a : RS) (w : MS) (H : Heap) (locs : List Loc) (ls : Array Slot), okR (c5 + 1) a → eqR a (view w) → va_P (dC, dI) vwCl (wR g cI cT a ++ wM g2 cI w) H → va_D (fun q : Nat => s.heap.size ≤ q) (wR g cI cT a ++ wM g2 cI w) → va_S (fun q : Nat => s.heap.size ≤ q) s.heap H locs → lv_has ls 4 [(0, .ref b), (1, .ref (g 0)), (2, .ref (g2 0)), (3, .int (nI (5 * c5)))] → W p l e room_1 s m #[Value.ref b] below meth c H locs 600000 7302250 (lw_Z below #[Value.ref b] s) (F0 m 417 ls [])) : W p l e room_1 s m #[Value.ref b] below meth c H locs 600000 7302250 (lw_Z below #[Value.ref b] s) (F0 m 304 ls []) := by
  obtain ⟨hx, hb, hr, hml, hown, hts, hX, hbl, hlocks, hgv⟩ := C0
  have htt := hts
  have hts := fun w h => htt w (wsL_law_in w h)
  have hA : ∀ q : Nat, s.heap.size ≤ q → (fun q : Nat => s.heap.size ≤ q) q := fun _ h => h
  have hbA : ¬ (fun q : Nat => s.heap.size ≤ q) b := Nat.not_le.mpr hbl
  refine lv_aload_n hx hb dL_law_304 rfl (lv_at hl 1 rfl) ?_
  refine lv_aload_n hx hb dL_law_305 rfl (lv_at hl 0 rfl) ?_
  refine lv_iload_n hx hb dL_law_306 rfl (lv_at hl 3 rfl) ?_
  refine lv_iconst (v := nI 1) hx hb dL_law_307 (by decide) ?_
  refine lv_iadd hx hb dL_law_308 ?_
  refine zt (y := nI ((5 * c5) + 1)) (nI_add _ _) ?_
  refine va_sld hx hb hX hbl hbA hS (vp_in_nI (show (5 * c5) + 1 < L by omega) (by omega)) dL_law_309 ?_
  refine zt (y := xs ((5 * c5) + 1)) (by rw [nI_clamp (by omega)]) ?_
  refine lv_aload_n hx hb dL_law_310 rfl (lv_at hl 0 rfl) ?_
  refine lv_iload_n hx hb dL_law_311 rfl (lv_at hl 3 rfl) ?_
  refine lv_iconst (v := nI 2) hx hb dL_law_312 (by decide) ?_
  refine lv_iadd hx hb dL_law_313 ?_
  refine zt (y := nI ((5 * c5) + 2)) (nI_add _ _) ?_
  refine va_sld hx hb hX hbl hbA hS (vp_in_nI (show (5 * c5) + 2 < L by omega) (by omega)) dL_law_314 ?_
  refine zt (y := xs ((5 * c5) + 2)) (by rw [nI_clamp (by omega)]) ?_
  refine zrol (va_runV (As := [.int (xs ((5 * c5) + 1)), .int (xs ((5 * c5) + 2))]) (rest := []) ⟨hx, hb, hml, hown, hts⟩ (c_Tree_next l dC dI cI cT g a (xs (5 * c5 + 1)) (xs (5 * c5 + 2)) H.size c5 hok (by omega)) (cwV 2 hts gL_law_X1_next rfl rfl rfl (by decide +kernel) ⟨Nat.le_of_ble_eq_true rfl, Nat.le_of_ble_eq_true rfl⟩) (zpreV hK (zPl hP) (zDl hD) rfl 0 rfl) rfl rfl hl.1 rfl (lv_room (Nat.le_of_ble_eq_true rfl)) dL_law_315 ⟨Nat.le_refl _, Nat.le_refl _⟩) hP hS hA (fun H locs hP hS => ?_)
  refine lv_aload_n hx hb dL_law_318 rfl (lv_at hl 2 rfl) ?_
  refine lv_aload_n hx hb dL_law_319 rfl (lv_at hl 0 rfl) ?_
  refine lv_iload_n hx hb dL_law_320 rfl (lv_at hl 3 rfl) ?_
  refine lv_iconst (v := nI 1) hx hb dL_law_321 (by decide) ?_
  refine lv_iadd hx hb dL_law_322 ?_
  refine zt (y := nI ((5 * c5) + 1)) (nI_add _ _) ?_
  refine va_sld hx hb hX hbl hbA hS (vp_in_nI (show (5 * c5) + 1 < L by omega) (by omega)) dL_law_323 ?_
  refine zt (y := xs ((5 * c5) + 1)) (by rw [nI_clamp (by omega)]) ?_
  refine lv_aload_n hx hb dL_law_324 rfl (lv_at hl 0 rfl) ?_
  refine lv_iload_n hx hb dL_law_325 rfl (lv_at hl 3 rfl) ?_
  refine lv_iconst (v := nI 2) hx hb dL_law_326 (by decide) ?_
  refine lv_iadd hx hb dL_law_327 ?_
  refine zt (y := nI ((5 * c5) + 2)) (nI_add _ _) ?_
  refine va_sld hx hb hX hbl hbA hS (vp_in_nI (show (5 * c5) + 2 < L by omega) (by omega)) dL_law_328 ?_
  refine zt (y := xs ((5 * c5) + 2)) (by rw [nI_clamp (by omega)]) ?_
  refine zrol (va_runV (As := [.int (xs ((5 * c5) + 1)), .int (xs ((5 * c5) + 2))]) (rest := [.long (aNext a (xs (5 * c5 + 1)) (xs (5 * c5 + 2)))]) ⟨hx, hb, hml, hown, hts⟩ (c_Model_next l dC dI cI cT g2 w (xs (5 * c5 + 1)) (xs (5 * c5 + 2)) H.size c5 (okR_eq heq hok) (by omega)) (cwV 2 hts gL_law_X2_next rfl rfl rfl (by decide +kernel) ⟨Nat.le_of_ble_eq_true rfl, Nat.le_of_ble_eq_true rfl⟩) (zpreV hK (zPr hP) (zDr hD) rfl 0 rfl) rfl rfl hl.1 rfl (lv_room (Nat.le_of_ble_eq_true rfl)) dL_law_329 ⟨Nat.le_refl _, Nat.le_refl _⟩) hP hS hA (fun H locs hP hS => ?_)
  refine ztr (y := .long (aNext a (xs (5 * c5 + 1)) (xs (5 * c5 + 2)))) (by rw [aNext_eq heq]) ?_
  refine W.lcmp hx hb dL_law_332 ?_
  refine zt (y := nI 0) (z_cmp _) ?_
  refine lv_if_eq (tgt := 417) hx hb dL_law_333 (by decide) (fun h_333 => ?_) (fun h_333 => absurd (by decide) h_333)
  exact kk a w _ _ _ (okR_up hok (Nat.le_succ c5)) heq hP hD hS (lv_sub hl [0, 1, 2, 3] rfl)
set_option maxHeartbeats 4000000 in
set_option maxRecDepth 100000 in
/-- the law, case 8: size -/
theorem law_size {p : Program} {l : Launch} {e : Env} {s : State} {m : MethodId} {below : List Frame} {meth : Method} {c : Code} {dC : Nat → ClassId} {dI : Nat → Nat → Nat} {cI cT : ClassId} {b L : Nat} {xs : Nat → Int32} {g g2 : Nat → Nat} (hL : L ≤ 2560) (C0 : lw_At p s m meth c b L xs) (hK : va_K (dC, dI) vwCl (zTY cI cT) s) {c5 : Nat} (h5 : 5 * c5 + 5 ≤ L) {a : RS} {w : MS} (hok : okR c5 a) (heq : eqR a (view w)) {H : Heap} {locs : List Loc} {ls : Array Slot} (hP : va_P (dC, dI) vwCl (wR g cI cT a ++ wM g2 cI w) H) (hD : va_D (fun q : Nat => s.heap.size ≤ q) (wR g cI cT a ++ wM g2 cI w)) (hS : va_S (fun q : Nat => s.heap.size ≤ q) s.heap H locs) (hl : lv_has ls 4 [(0, .ref b), (1, .ref (g 0)), (2, .ref (g2 0)), (3, .int (nI (5 * c5)))])
    (kk : ∀ (a : RS) (w : MS) (H : Heap) (locs : List Loc) (ls : Array Slot), okR (c5 + 1) a → eqR a (view w) → va_P (dC, dI) vwCl (wR g cI cT a ++ wM g2 cI w) H → va_D (fun q : Nat => s.heap.size ≤ q) (wR g cI cT a ++ wM g2 cI w) → va_S (fun q : Nat => s.heap.size ≤ q) s.heap H locs → lv_has ls 4 [(0, .ref b), (1, .ref (g 0)), (2, .ref (g2 0)), (3, .int (nI (5 * c5)))] → W p l e room_1 s m #[Value.ref b] below meth c H locs 600000 7302250 (lw_Z below #[Value.ref b] s) (F0 m 417 ls [])) : W p l e room_1 s m #[Value.ref b] below meth c H locs 600000 7302250 (lw_Z below #[Value.ref b] s) (F0 m 338 ls []) := by
  obtain ⟨hx, hb, hr, hml, hown, hts, hX, hbl, hlocks, hgv⟩ := C0
  have htt := hts
  have hts := fun w h => htt w (wsL_law_in w h)
  have hA : ∀ q : Nat, s.heap.size ≤ q → (fun q : Nat => s.heap.size ≤ q) q := fun _ h => h
  have hbA : ¬ (fun q : Nat => s.heap.size ≤ q) b := Nat.not_le.mpr hbl
  refine lv_aload_n hx hb dL_law_338 rfl (lv_at hl 1 rfl) ?_
  refine lv_aload_n hx hb dL_law_339 rfl (lv_at hl 0 rfl) ?_
  refine lv_iload_n hx hb dL_law_340 rfl (lv_at hl 3 rfl) ?_
  refine lv_iconst (v := nI 1) hx hb dL_law_341 (by decide) ?_
  refine lv_iadd hx hb dL_law_342 ?_
  refine zt (y := nI ((5 * c5) + 1)) (nI_add _ _) ?_
  refine va_sld hx hb hX hbl hbA hS (vp_in_nI (show (5 * c5) + 1 < L by omega) (by omega)) dL_law_343 ?_
  refine zt (y := xs ((5 * c5) + 1)) (by rw [nI_clamp (by omega)]) ?_
  refine lv_aload_n hx hb dL_law_344 rfl (lv_at hl 0 rfl) ?_
  refine lv_iload_n hx hb dL_law_345 rfl (lv_at hl 3 rfl) ?_
  refine lv_iconst (v := nI 2) hx hb dL_law_346 (by decide) ?_
  refine lv_iadd hx hb dL_law_347 ?_
  refine zt (y := nI ((5 * c5) + 2)) (nI_add _ _) ?_
  refine va_sld hx hb hX hbl hbA hS (vp_in_nI (show (5 * c5) + 2 < L by omega) (by omega)) dL_law_348 ?_
  refine zt (y := xs ((5 * c5) + 2)) (by rw [nI_clamp (by omega)]) ?_
  refine zroi (va_runV (As := [.int (xs ((5 * c5) + 1)), .int (xs ((5 * c5) + 2))]) (rest := []) ⟨hx, hb, hml, hown, hts⟩ (c_Tree_size l dC dI cI cT g a (xs (5 * c5 + 1)) (xs (5 * c5 + 2)) H.size c5 hok (by omega)) (cwV 2 hts gL_law_X1_size rfl rfl rfl (by decide +kernel) ⟨Nat.le_of_ble_eq_true rfl, Nat.le_of_ble_eq_true rfl⟩) (zpreV hK (zPl hP) (zDl hD) rfl 0 rfl) rfl rfl hl.1 rfl (lv_room (Nat.le_of_ble_eq_true rfl)) dL_law_349 ⟨Nat.le_refl _, Nat.le_refl _⟩) hP hS hA (fun H locs hP hS => ?_)
  refine lv_aload_n hx hb dL_law_352 rfl (lv_at hl 2 rfl) ?_
  refine lv_aload_n hx hb dL_law_353 rfl (lv_at hl 0 rfl) ?_
  refine lv_iload_n hx hb dL_law_354 rfl (lv_at hl 3 rfl) ?_
  refine lv_iconst (v := nI 1) hx hb dL_law_355 (by decide) ?_
  refine lv_iadd hx hb dL_law_356 ?_
  refine zt (y := nI ((5 * c5) + 1)) (nI_add _ _) ?_
  refine va_sld hx hb hX hbl hbA hS (vp_in_nI (show (5 * c5) + 1 < L by omega) (by omega)) dL_law_357 ?_
  refine zt (y := xs ((5 * c5) + 1)) (by rw [nI_clamp (by omega)]) ?_
  refine lv_aload_n hx hb dL_law_358 rfl (lv_at hl 0 rfl) ?_
  refine lv_iload_n hx hb dL_law_359 rfl (lv_at hl 3 rfl) ?_
  refine lv_iconst (v := nI 2) hx hb dL_law_360 (by decide) ?_
  refine lv_iadd hx hb dL_law_361 ?_
  refine zt (y := nI ((5 * c5) + 2)) (nI_add _ _) ?_
  refine va_sld hx hb hX hbl hbA hS (vp_in_nI (show (5 * c5) + 2 < L by omega) (by omega)) dL_law_362 ?_
  refine zt (y := xs ((5 * c5) + 2)) (by rw [nI_clamp (by omega)]) ?_
  refine zroi (va_runV (As := [.int (xs ((5 * c5) + 1)), .int (xs ((5 * c5) + 2))]) (rest := [.int (aSize a (xs (5 * c5 + 1)) (xs (5 * c5 + 2)))]) ⟨hx, hb, hml, hown, hts⟩ (c_Model_size l dC dI cI cT g2 w (xs (5 * c5 + 1)) (xs (5 * c5 + 2)) H.size c5 (okR_eq heq hok) (by omega)) (cwV 2 hts gL_law_X2_size rfl rfl rfl (by decide +kernel) ⟨Nat.le_of_ble_eq_true rfl, Nat.le_of_ble_eq_true rfl⟩) (zpreV hK (zPr hP) (zDr hD) rfl 0 rfl) rfl rfl hl.1 rfl (lv_room (Nat.le_of_ble_eq_true rfl)) dL_law_363 ⟨Nat.le_refl _, Nat.le_refl _⟩) hP hS hA (fun H locs hP hS => ?_)
  refine lv_icmp_eq (tgt := 417) hx hb dL_law_366 (by decide) (fun h_366 => ?_) (fun h_366 => absurd ((aSize_eq heq (xs (5 * c5 + 1)) (xs (5 * c5 + 2)))) h_366)
  exact kk a w _ _ _ (okR_up hok (Nat.le_succ c5)) heq hP hD hS (lv_sub hl [0, 1, 2, 3] rfl)
set_option maxHeartbeats 4000000 in
set_option maxRecDepth 100000 in
/-- the law, case 9: count -/
theorem law_count {p : Program} {l : Launch} {e : Env} {s : State} {m : MethodId} {below : List Frame} {meth : Method} {c : Code} {dC : Nat → ClassId} {dI : Nat → Nat → Nat} {cI cT : ClassId} {b L : Nat} {xs : Nat → Int32} {g g2 : Nat → Nat} (hL : L ≤ 2560) (C0 : lw_At p s m meth c b L xs) (hK : va_K (dC, dI) vwCl (zTY cI cT) s) {c5 : Nat} (h5 : 5 * c5 + 5 ≤ L) {a : RS} {w : MS} (hok : okR c5 a) (heq : eqR a (view w)) {H : Heap} {locs : List Loc} {ls : Array Slot} (hP : va_P (dC, dI) vwCl (wR g cI cT a ++ wM g2 cI w) H) (hD : va_D (fun q : Nat => s.heap.size ≤ q) (wR g cI cT a ++ wM g2 cI w)) (hS : va_S (fun q : Nat => s.heap.size ≤ q) s.heap H locs) (hl : lv_has ls 4 [(0, .ref b), (1, .ref (g 0)), (2, .ref (g2 0)), (3, .int (nI (5 * c5)))])
    (kk : ∀ (a : RS) (w : MS) (H : Heap) (locs : List Loc) (ls : Array Slot), okR (c5 + 1) a → eqR a (view w) → va_P (dC, dI) vwCl (wR g cI cT a ++ wM g2 cI w) H → va_D (fun q : Nat => s.heap.size ≤ q) (wR g cI cT a ++ wM g2 cI w) → va_S (fun q : Nat => s.heap.size ≤ q) s.heap H locs → lv_has ls 4 [(0, .ref b), (1, .ref (g 0)), (2, .ref (g2 0)), (3, .int (nI (5 * c5)))] → W p l e room_1 s m #[Value.ref b] below meth c H locs 600000 7302250 (lw_Z below #[Value.ref b] s) (F0 m 417 ls [])) : W p l e room_1 s m #[Value.ref b] below meth c H locs 600000 7302250 (lw_Z below #[Value.ref b] s) (F0 m 371 ls []) := by
  obtain ⟨hx, hb, hr, hml, hown, hts, hX, hbl, hlocks, hgv⟩ := C0
  have htt := hts
  have hts := fun w h => htt w (wsL_law_in w h)
  have hA : ∀ q : Nat, s.heap.size ≤ q → (fun q : Nat => s.heap.size ≤ q) q := fun _ h => h
  have hbA : ¬ (fun q : Nat => s.heap.size ≤ q) b := Nat.not_le.mpr hbl
  refine lv_aload_n hx hb dL_law_371 rfl (lv_at hl 1 rfl) ?_
  refine lv_aload_n hx hb dL_law_372 rfl (lv_at hl 0 rfl) ?_
  refine lv_iload_n hx hb dL_law_373 rfl (lv_at hl 3 rfl) ?_
  refine lv_iconst (v := nI 1) hx hb dL_law_374 (by decide) ?_
  refine lv_iadd hx hb dL_law_375 ?_
  refine zt (y := nI ((5 * c5) + 1)) (nI_add _ _) ?_
  refine va_sld hx hb hX hbl hbA hS (vp_in_nI (show (5 * c5) + 1 < L by omega) (by omega)) dL_law_376 ?_
  refine zt (y := xs ((5 * c5) + 1)) (by rw [nI_clamp (by omega)]) ?_
  refine zroi (va_runV (As := [.int (xs ((5 * c5) + 1))]) (rest := []) ⟨hx, hb, hml, hown, hts⟩ (c_Tree_count l dC dI cI cT g a (xs (5 * c5 + 1)) H.size c5 hok (by omega)) (cwV 1 hts gL_law_X1_count rfl rfl rfl (by decide +kernel) ⟨Nat.le_of_ble_eq_true rfl, Nat.le_of_ble_eq_true rfl⟩) (zpreV hK (zPl hP) (zDl hD) rfl 0 rfl) rfl rfl hl.1 rfl (lv_room (Nat.le_of_ble_eq_true rfl)) dL_law_377 ⟨Nat.le_refl _, Nat.le_refl _⟩) hP hS hA (fun H locs hP hS => ?_)
  refine lv_aload_n hx hb dL_law_380 rfl (lv_at hl 2 rfl) ?_
  refine lv_aload_n hx hb dL_law_381 rfl (lv_at hl 0 rfl) ?_
  refine lv_iload_n hx hb dL_law_382 rfl (lv_at hl 3 rfl) ?_
  refine lv_iconst (v := nI 1) hx hb dL_law_383 (by decide) ?_
  refine lv_iadd hx hb dL_law_384 ?_
  refine zt (y := nI ((5 * c5) + 1)) (nI_add _ _) ?_
  refine va_sld hx hb hX hbl hbA hS (vp_in_nI (show (5 * c5) + 1 < L by omega) (by omega)) dL_law_385 ?_
  refine zt (y := xs ((5 * c5) + 1)) (by rw [nI_clamp (by omega)]) ?_
  refine zroi (va_runV (As := [.int (xs ((5 * c5) + 1))]) (rest := [.int (aCount a (xs (5 * c5 + 1)))]) ⟨hx, hb, hml, hown, hts⟩ (c_Model_count l dC dI cI cT g2 w (xs (5 * c5 + 1)) H.size c5 (okR_eq heq hok) (by omega)) (cwV 1 hts gL_law_X2_count rfl rfl rfl (by decide +kernel) ⟨Nat.le_of_ble_eq_true rfl, Nat.le_of_ble_eq_true rfl⟩) (zpreV hK (zPr hP) (zDr hD) rfl 0 rfl) rfl rfl hl.1 rfl (lv_room (Nat.le_of_ble_eq_true rfl)) dL_law_386 ⟨Nat.le_refl _, Nat.le_refl _⟩) hP hS hA (fun H locs hP hS => ?_)
  refine lv_icmp_eq (tgt := 417) hx hb dL_law_389 (by decide) (fun h_389 => ?_) (fun h_389 => absurd ((aCount_eq heq (xs (5 * c5 + 1)))) h_389)
  exact kk a w _ _ _ (okR_up hok (Nat.le_succ c5)) heq hP hD hS (lv_sub hl [0, 1, 2, 3] rfl)
set_option maxHeartbeats 4000000 in
set_option maxRecDepth 100000 in
/-- the law, case 10: digest -/
theorem law_digest {p : Program} {l : Launch} {e : Env} {s : State} {m : MethodId} {below : List Frame} {meth : Method} {c : Code} {dC : Nat → ClassId} {dI : Nat → Nat → Nat} {cI cT : ClassId} {b L : Nat} {xs : Nat → Int32} {g g2 : Nat → Nat} (hL : L ≤ 2560) (C0 : lw_At p s m meth c b L xs) (hK : va_K (dC, dI) vwCl (zTY cI cT) s) {c5 : Nat} (h5 : 5 * c5 + 5 ≤ L) {a : RS} {w : MS} (hok : okR c5 a) (heq : eqR a (view w)) {H : Heap} {locs : List Loc} {ls : Array Slot} (hP : va_P (dC, dI) vwCl (wR g cI cT a ++ wM g2 cI w) H) (hD : va_D (fun q : Nat => s.heap.size ≤ q) (wR g cI cT a ++ wM g2 cI w)) (hS : va_S (fun q : Nat => s.heap.size ≤ q) s.heap H locs) (hl : lv_has ls 4 [(0, .ref b), (1, .ref (g 0)), (2, .ref (g2 0)), (3, .int (nI (5 * c5)))])
    (kk : ∀ (a : RS) (w : MS) (H : Heap) (locs : List Loc) (ls : Array Slot), okR (c5 + 1) a → eqR a (view w) → va_P (dC, dI) vwCl (wR g cI cT a ++ wM g2 cI w) H → va_D (fun q : Nat => s.heap.size ≤ q) (wR g cI cT a ++ wM g2 cI w) → va_S (fun q : Nat => s.heap.size ≤ q) s.heap H locs → lv_has ls 4 [(0, .ref b), (1, .ref (g 0)), (2, .ref (g2 0)), (3, .int (nI (5 * c5)))] → W p l e room_1 s m #[Value.ref b] below meth c H locs 600000 7302250 (lw_Z below #[Value.ref b] s) (F0 m 417 ls [])) : W p l e room_1 s m #[Value.ref b] below meth c H locs 600000 7302250 (lw_Z below #[Value.ref b] s) (F0 m 394 ls []) := by
  obtain ⟨hx, hb, hr, hml, hown, hts, hX, hbl, hlocks, hgv⟩ := C0
  have htt := hts
  have hts := fun w h => htt w (wsL_law_in w h)
  have hA : ∀ q : Nat, s.heap.size ≤ q → (fun q : Nat => s.heap.size ≤ q) q := fun _ h => h
  have hbA : ¬ (fun q : Nat => s.heap.size ≤ q) b := Nat.not_le.mpr hbl
  refine lv_aload_n hx hb dL_law_394 rfl (lv_at hl 1 rfl) ?_
  refine lv_aload_n hx hb dL_law_395 rfl (lv_at hl 0 rfl) ?_
  refine lv_iload_n hx hb dL_law_396 rfl (lv_at hl 3 rfl) ?_
  refine lv_iconst (v := nI 1) hx hb dL_law_397 (by decide) ?_
  refine lv_iadd hx hb dL_law_398 ?_
  refine zt (y := nI ((5 * c5) + 1)) (nI_add _ _) ?_
  refine va_sld hx hb hX hbl hbA hS (vp_in_nI (show (5 * c5) + 1 < L by omega) (by omega)) dL_law_399 ?_
  refine zt (y := xs ((5 * c5) + 1)) (by rw [nI_clamp (by omega)]) ?_
  refine zroi (va_runV (As := [.int (xs ((5 * c5) + 1))]) (rest := []) ⟨hx, hb, hml, hown, hts⟩ (c_Tree_digest l dC dI cI cT g a (xs (5 * c5 + 1)) H.size c5 hok (by omega)) (cwV 1 hts gL_law_X1_digest rfl rfl rfl (by decide +kernel) ⟨Nat.le_of_ble_eq_true rfl, Nat.le_of_ble_eq_true rfl⟩) (zpreV hK (zPl hP) (zDl hD) rfl 0 rfl) rfl rfl hl.1 rfl (lv_room (Nat.le_of_ble_eq_true rfl)) dL_law_400 ⟨Nat.le_refl _, Nat.le_refl _⟩) hP hS hA (fun H locs hP hS => ?_)
  refine lv_aload_n hx hb dL_law_403 rfl (lv_at hl 2 rfl) ?_
  refine lv_aload_n hx hb dL_law_404 rfl (lv_at hl 0 rfl) ?_
  refine lv_iload_n hx hb dL_law_405 rfl (lv_at hl 3 rfl) ?_
  refine lv_iconst (v := nI 1) hx hb dL_law_406 (by decide) ?_
  refine lv_iadd hx hb dL_law_407 ?_
  refine zt (y := nI ((5 * c5) + 1)) (nI_add _ _) ?_
  refine va_sld hx hb hX hbl hbA hS (vp_in_nI (show (5 * c5) + 1 < L by omega) (by omega)) dL_law_408 ?_
  refine zt (y := xs ((5 * c5) + 1)) (by rw [nI_clamp (by omega)]) ?_
  refine zroi (va_runV (As := [.int (xs ((5 * c5) + 1))]) (rest := [.int (aDigest a (xs (5 * c5 + 1)))]) ⟨hx, hb, hml, hown, htt⟩ (c_Model_digest l dC dI cI cT g2 w (xs (5 * c5 + 1)) H.size c5 (okR_eq heq hok) (by omega)) (cwV 1 htt gL_law_X2_digest rfl rfl rfl (by decide +kernel) ⟨Nat.le_of_ble_eq_true rfl, Nat.le_of_ble_eq_true rfl⟩) (zpreV hK (zPr hP) (zDr hD) rfl 0 rfl) rfl rfl hl.1 rfl (lv_room (Nat.le_of_ble_eq_true rfl)) dL_law_409 ⟨Nat.le_refl _, Nat.le_refl _⟩) hP hS hA (fun H locs hP hS => ?_)
  refine lv_icmp_eq (tgt := 417) hx hb dL_law_412 (by decide) (fun h_412 => ?_) (fun h_412 => absurd ((aDigest_eq heq (xs (5 * c5 + 1)))) h_412)
  exact kk a w _ _ _ (okR_up hok (Nat.le_succ c5)) heq hP hD hS (lv_sub hl [0, 1, 2, 3] rfl)
end
section
set_option maxHeartbeats 4000000 in
set_option maxRecDepth 100000 in
/-- the law, from its entry -/
theorem whole_start {p : Program} {e : Env} {s : State} {m : MethodId} {below : List Frame} {meth : Method} {c : Code} (l : Launch) {b L : Nat} {xs : Nat → Int32} (hL : L ≤ 2560) (C0 : lw_At p s m meth c b L xs) : W p l e room_1 s m #[Value.ref b] below meth c s.heap [] 0 0 (lw_Z below #[Value.ref b] s) (entryFrame m ([Value.ref b] : List Value).toArray 4) := by
  obtain ⟨hx, hb, hr, hml, hown, hts, hX, hbl, hlocks, hgv⟩ := id C0
  have htt := hts
  have hts := fun w h => htt w (wsL_law_in w h)
  have hA : ∀ q : Nat, s.heap.size ≤ q → (fun q : Nat => s.heap.size ≤ q) q := fun _ h => h
  have hbA : ¬ (fun q : Nat => s.heap.size ≤ q) b := Nat.not_le.mpr hbl
  obtain ⟨c0, iS0, hKn0⟩ := u_known (C := RX0) (T := TX0) (N := 4) (n := 4) hts inlX0 (hts (.instantiable RX0 4) (by decide +kernel))
  obtain ⟨c1, iS1, hKn1⟩ := u_known (C := RX1) (T := TX1) (N := 4) (n := 4) hts inlX1 (hts (.instantiable RX1 4) (by decide +kernel))
  obtain ⟨c2, iS2, hKn2⟩ := u_known (C := RX2) (T := TX2) (N := 6) (n := 6) hts inlX2 (hts (.instantiable RX2 6) (by decide +kernel))
  obtain ⟨dC, dI, hKc⟩ : ∃ (dC : Nat → ClassId) (dI : Nat → Nat → Nat), ∀ (k : Nat) (q : vw_C), vwCl[k]? = some q → u_Kn s q.1 q.2.1 q.2.2 (dC k) (dI k) := by
    refine ⟨fun k => if k = 0 then c0 else if k = 1 then c1 else c2, fun k => if k = 0 then iS0 else if k = 1 then iS1 else iS2, ?_⟩
    intro k q hq
    match k, hq with
    | 0, hq => cases hq; exact hKn0
    | 1, hq => cases hq; exact hKn1
    | 2, hq => cases hq; exact hKn2
    | k + 3, hq => simp [vwCl] at hq
  have hNw : va_Nw (.methodLinkNest RX1 9 yX0_init "RevisionTree") s := va_Nw.of rfl (htt (.methodLinkNest RX1 9 yX0_init "RevisionTree") (by decide +kernel))
  have hAO : va_AO RX0 s := va_AO.of (htt (.arrayOver (.object RX0)) (by decide +kernel))
  obtain ⟨cI, hI⟩ := zarrI (hts (.arrayClass .int) (by decide +kernel))
  obtain ⟨cT, hT⟩ := zarrT (htt (.arrayOver (.object RX0)) (by decide +kernel))
  have hK : va_K (dC, dI) vwCl (zTY cI cT) s := ⟨hKc, fun k q h => by
      match k, h with
      | 0, h => cases h; exact hI
      | 1, h => cases h; exact hT
      | k + 2, h => simp [zTY] at h⟩
  have hS : va_S (fun q : Nat => s.heap.size ≤ q) s.heap s.heap [] := va_S.rf
  have hP : va_P (dC, dI) vwCl [] s.heap := fun k q h => by simp at h
  have hD : va_D (fun q : Nat => s.heap.size ≤ q) [] := ⟨fun i j p q h => by simp at h, fun k q h => by simp at h⟩
  have hl := lv_entry ([.ref b]) (n := 4) (Nat.le_of_ble_eq_true rfl)
  rw [lg_entry_eq]
  generalize (lg_sl ([.ref b]) ++ List.replicate (4 - (lg_sl ([.ref b])).length) Slot.unset).toArray = ls at hl ⊢
  have hl : lv_has ls 4 [(0, .ref b)] := hl
  refine va_new (ci := 1) (fs := [.null, .null, .null, .int (nI 0)]) (C := RX1) (T := TX1) (N := 4) hx hb hts inlX1 tyX1 tyX1_ok hown (hts (.classLink RL 7 RX1) (by decide +kernel)) (hts (.instantiable RX1 4) (by decide +kernel)) (hts (.initialized RX1) (by decide +kernel)) hK hP hD hS hA rfl (fun j hj => by rcases (show j = 0 ∨ j = 1 ∨ j = 2 ∨ j = 3 by omega) with rfl | rfl | rfl | rfl <;> rfl) (by decide +kernel) (by decide +kernel) dL_law_0 (fun qx H hP hD hS => ?_)
  have hP : va_P (dC, dI) vwCl [(qx, .inr (1, [.null, .null, .null, .int (nI 0)]))] H := hP
  have hD : va_D (fun q : Nat => s.heap.size ≤ q) [(qx, .inr (1, [.null, .null, .null, .int (nI 0)]))] := hD
  refine lv_dup hx hb dL_law_3 rfl ?_
  have hFc := va_free (wc := [(qx, .inr (1, [.null, .null, .null, .int (nI 0)]))]) hD hS hA [0] rfl
  refine va_callv (va_runI (As := []) (rest := [.ref qx]) ⟨hx, hb, hml, hown, hts⟩ (c_Tree_init l dC dI cI cT qx H.size) (cwI 0 hts gL_law_X1_init rfl rfl rfl (hts (.initialized RX1) (by decide +kernel)) (hts (.methodLink RL 9 yX1_init) (by decide +kernel)) (hts (.instanceMethod yX1_init) (by decide +kernel)) rfl (by decide +kernel) ⟨Nat.le_of_ble_eq_true rfl, Nat.le_of_ble_eq_true rfl⟩) (zpreSX hK (hP.sub [0] rfl) (hD.sub [0] (by decide) rfl) hNw hAO) rfl rfl hl.1 rfl (lv_room (Nat.le_of_ble_eq_true rfl)) dL_law_4 ⟨by decide +kernel, by decide +kernel⟩) hS (fun q _ h => hFc q h) hFc (fun g t9 H1 locs ht9 hvm hw hB hz1 hk1 hS => ?_)
  obtain ⟨hP1, hD1⟩ := hB
  rw [ht9] at hP1
  have hw : g 0 = qx := hw
  subst hw
  obtain ⟨hP, hD⟩ := va_join (wr := []) (w1 := wR g cI cT a0s) hP hD [0] [] rfl rfl (by decide) (by decide) hk1 hFc hP1 hD1
  generalize H1 = H at hP hS ⊢
  have hP : va_P (dC, dI) vwCl (wR g cI cT a0s) H := hP
  have hD : va_D (fun q : Nat => s.heap.size ≤ q) (wR g cI cT a0s) := hD
  refine lv_astore_n (lv' := [(1, .ref (g 0)), (0, .ref b)]) hx hb dL_law_7 rfl hl (by decide) rfl (fun ls hl => ?_)
  refine va_new (ci := 2) (fs := [.null, .null, .null, .null, .null, .int (nI 0)]) (C := RX2) (T := TX2) (N := 6) hx hb hts inlX2 tyX2 tyX2_ok hown (hts (.classLink RL 10 RX2) (by decide +kernel)) (hts (.instantiable RX2 6) (by decide +kernel)) (hts (.initialized RX2) (by decide +kernel)) hK hP hD hS hA rfl (fun j hj => by rcases (show j = 0 ∨ j = 1 ∨ j = 2 ∨ j = 3 ∨ j = 4 ∨ j = 5 by omega) with rfl | rfl | rfl | rfl | rfl | rfl <;> rfl) (by decide +kernel) (by decide +kernel) dL_law_8 (fun qm H hP hD hS => ?_)
  have hP : va_P (dC, dI) vwCl (wR g cI cT a0s ++ [(qm, .inr (2, [.null, .null, .null, .null, .null, .int (nI 0)]))]) H := hP
  have hD : va_D (fun q : Nat => s.heap.size ≤ q) (wR g cI cT a0s ++ [(qm, .inr (2, [.null, .null, .null, .null, .null, .int (nI 0)]))]) := hD
  refine lv_dup hx hb dL_law_11 rfl ?_
  have hFc := va_free (wc := [(qm, .inr (2, [.null, .null, .null, .null, .null, .int (nI 0)]))]) hD hS hA [19] rfl
  refine va_callv (va_runI (As := []) (rest := [.ref qm]) ⟨hx, hb, hml, hown, hts⟩ (c_Model_init l dC dI cI cT qm H.size) (cwI 0 hts gL_law_X2_init rfl rfl rfl (hts (.initialized RX2) (by decide +kernel)) (hts (.methodLink RL 12 yX2_init) (by decide +kernel)) (hts (.instanceMethod yX2_init) (by decide +kernel)) rfl (by decide +kernel) ⟨Nat.le_of_ble_eq_true rfl, Nat.le_of_ble_eq_true rfl⟩) (zpreS hK (hP.sub [19] rfl) (hD.sub [19] (by decide) rfl)) rfl rfl hl.1 rfl (lv_room (Nat.le_of_ble_eq_true rfl)) dL_law_12 ⟨by decide +kernel, by decide +kernel⟩) hS (fun q _ h => hFc q h) hFc (fun g2 t9 H1 locs ht9 hvm hw hB hz1 hk1 hS => ?_)
  obtain ⟨hP1, hD1⟩ := hB
  rw [ht9] at hP1
  have hw : g2 0 = qm := hw
  subst hw
  obtain ⟨hP, hD⟩ := va_join (wr := wR g cI cT a0s) (w1 := wM g2 cI m0s) hP hD [19] [0, 1, 2, 3, 4, 5, 6, 7, 8, 9, 10, 11, 12, 13, 14, 15, 16, 17, 18] rfl rfl (by decide) (by decide) hk1 hFc hP1 hD1
  generalize H1 = H at hP hS ⊢
  have hP : va_P (dC, dI) vwCl (wR g cI cT a0s ++ wM g2 cI m0s) H := hP
  have hD : va_D (fun q : Nat => s.heap.size ≤ q) (wR g cI cT a0s ++ wM g2 cI m0s) := hD
  refine lv_astore_n (lv' := [(2, .ref (g2 0)), (1, .ref (g 0)), (0, .ref b)]) hx hb dL_law_15 rfl hl (by decide) rfl (fun ls hl => ?_)
  refine W.widen (k := 600000) (n := 7302250) (by decide +kernel) (by decide +kernel) ?_
  refine lv_iconst (v := nI 0) hx hb dL_law_16 (by decide) ?_
  refine lv_istore_n (lv' := [(3, .int (nI 0)), (2, .ref (g2 0)), (1, .ref (g 0)), (0, .ref b)]) hx hb dL_law_17 rfl hl (by decide) rfl (fun ls hl => ?_)
  refine zloop (σ := Nat × RS × MS) (fun x H locs ls => match x with | (c5, a, w) => (5 * c5 ≤ L ∧ okR c5 a ∧ eqR a (view w)) ∧ va_P (dC, dI) vwCl (wR g cI cT a ++ wM g2 cI w) H ∧ va_D (fun q : Nat => s.heap.size ≤ q) (wR g cI cT a ++ wM g2 cI w) ∧ va_S (fun q : Nat => s.heap.size ≤ q) s.heap H locs ∧ lv_has ls 4 [(0, .ref b), (1, .ref (g 0)), (2, .ref (g2 0)), (3, .int (nI (5 * c5)))]) (fun x => L + 1 - 5 * x.1) ?_ (0, a0s, m0s) ⟨⟨Nat.zero_le _, ok0, eq0⟩, hP, hD, hS, lv_sub hl [3, 2, 1, 0] rfl⟩
  rintro ⟨c5, a, w⟩ H locs ls ⟨⟨hc5, hok, heq⟩, hP, hD, hS, hl⟩ ih
  refine lv_iload_n hx hb dL_law_18 rfl (lv_at hl 3 rfl) ?_
  refine lv_aload_n hx hb dL_law_19 rfl (lv_at hl 0 rfl) ?_
  refine va_slen hx hb hX hbl hbA hS dL_law_20 ?_
  refine lv_iconst (v := nI 5) hx hb dL_law_21 (by decide) ?_
  refine lv_isub hx hb dL_law_22 ?_
  refine lv_icmp_gt (tgt := 423) hx hb dL_law_23 (by decide) (fun h_23 => ?_) (fun h_23 => ?_)
  · refine lv_iconst (v := 1) hx hb dL_law_423 (by decide) ?_
    refine va_forget (fun q hq => hS.2.2 q hq) ?_
    exact lw_ret hx hb hr hlocks dL_law_424
  · have h5 : 5 * c5 + 5 ≤ L := z_le5 h_23 (by omega) (by omega)
    have kk : ∀ (a : RS) (w : MS) (H : Heap) (locs : List Loc) (ls : Array Slot), okR (c5 + 1) a → eqR a (view w) → va_P (dC, dI) vwCl (wR g cI cT a ++ wM g2 cI w) H → va_D (fun q : Nat => s.heap.size ≤ q) (wR g cI cT a ++ wM g2 cI w) → va_S (fun q : Nat => s.heap.size ≤ q) s.heap H locs → lv_has ls 4 [(0, .ref b), (1, .ref (g 0)), (2, .ref (g2 0)), (3, .int (nI (5 * c5)))] → W p l e room_1 s m #[Value.ref b] below meth c H locs 600000 7302250 (lw_Z below #[Value.ref b] s) (F0 m 417 ls []) := by
      intro a w H locs ls hok heq hP hD hS hl
      refine lv_iinc (v := nI (5 * (c5 + 1))) (lv' := [(3, .int (nI (5 * (c5 + 1)))), (0, .ref b), (1, .ref (g 0)), (2, .ref (g2 0))]) hx hb dL_law_417 hl (k := 3) rfl (z_5 _) (by decide) rfl (fun ls hl => ?_)
      refine lv_goto (tgt := 18) hx hb dL_law_420 (by decide) ?_
      exact ih (c5 + 1, a, w) _ _ _ ⟨⟨by omega, hok, heq⟩, hP, hD, hS, lv_sub hl [1, 2, 3, 0] rfl⟩ (by show L + 1 - 5 * (c5 + 1) < L + 1 - 5 * c5; omega)
    refine lv_aload_n hx hb dL_law_26 rfl (lv_at hl 0 rfl) ?_
    refine lv_iload_n hx hb dL_law_27 rfl (lv_at hl 3 rfl) ?_
    refine va_sld hx hb hX hbl hbA hS (vp_in_nI (show 5 * c5 < L by omega) (by omega)) dL_law_28 ?_
    refine lv_bipush (v := nI 15) hx hb dL_law_29 (by decide) ?_
    refine lv_iand hx hb dL_law_31 ?_
    obtain ⟨v, hv, ev⟩ := pk_andE (xs (nI (5 * c5)).toNatClampNeg) (m := nI 15) 4 (by decide)
    refine zt ev ?_
    rcases (show v = 0 ∨ v = 1 ∨ v = 2 ∨ v = 3 ∨ v = 4 ∨ v = 5 ∨ v = 6 ∨ v = 7 ∨ v = 8 ∨ v = 9 ∨ v = 10 ∨ 11 ≤ v by omega) with h | h | h | h | h | h | h | h | h | h | h | h
    · subst h
      refine lv_tableIn (tgt := 92) hx hb dL_law_32 (by decide) (by decide) (off := 60) (by decide) (by decide) ?_
      exact law_put hL C0 hK h5 hok heq hP hD hS hl kk
    · subst h
      refine lv_tableIn (tgt := 135) hx hb dL_law_32 (by decide) (by decide) (off := 103) (by decide) (by decide) ?_
      exact law_some hL C0 hK h5 hok heq hP hD hS hl kk
    · subst h
      refine lv_tableIn (tgt := 188) hx hb dL_law_32 (by decide) (by decide) (off := 156) (by decide) (by decide) ?_
      exact law_remove hL C0 hK h5 hok heq hP hD hS hl kk
    · subst h
      refine lv_tableIn (tgt := 211) hx hb dL_law_32 (by decide) (by decide) (off := 179) (by decide) (by decide) ?_
      exact law_commit hL C0 hK h5 hok heq hP hD hS hl kk
    · subst h
      refine lv_tableIn (tgt := 234) hx hb dL_law_32 (by decide) (by decide) (off := 202) (by decide) (by decide) ?_
      exact law_forget hL C0 hK h5 hok heq hP hD hS hl kk
    · subst h
      refine lv_tableIn (tgt := 247) hx hb dL_law_32 (by decide) (by decide) (off := 215) (by decide) (by decide) ?_
      exact law_open hL C0 hK h5 hok heq hP hD hS hl kk
    · subst h
      refine lv_tableIn (tgt := 270) hx hb dL_law_32 (by decide) (by decide) (off := 238) (by decide) (by decide) ?_
      exact law_get hL C0 hK h5 hok heq hP hD hS hl kk
    · subst h
      refine lv_tableIn (tgt := 304) hx hb dL_law_32 (by decide) (by decide) (off := 272) (by decide) (by decide) ?_
      exact law_next hL C0 hK h5 hok heq hP hD hS hl kk
    · subst h
      refine lv_tableIn (tgt := 338) hx hb dL_law_32 (by decide) (by decide) (off := 306) (by decide) (by decide) ?_
      exact law_size hL C0 hK h5 hok heq hP hD hS hl kk
    · subst h
      refine lv_tableIn (tgt := 371) hx hb dL_law_32 (by decide) (by decide) (off := 339) (by decide) (by decide) ?_
      exact law_count hL C0 hK h5 hok heq hP hD hS hl kk
    · subst h
      refine lv_tableIn (tgt := 394) hx hb dL_law_32 (by decide) (by decide) (off := 362) (by decide) (by decide) ?_
      exact law_digest hL C0 hK h5 hok heq hP hD hS hl kk
    · refine lv_tableOut (tgt := 417) hx hb dL_law_32 (Or.inr (by rw [nI_toInt (by omega)]; omega)) (by decide) ?_
      exact kk a w _ _ _ (okR_up hok (Nat.le_succ c5)) heq hP hD hS hl
end
section
-- ===== YOUR PART ENDS =====
set_option maxHeartbeats 4000000 in
theorem lw_walk (l : Launch) (b : Addr) (xs : List Int32) : MetFree l x (headSpec (Jvm.Cond.code x code maxLocals ret :: tables_1) room_1) (lw_P b xs) (fun _ _ _ _ _ => True) lw_Q := by
  refine MetFree.of_bodyS (code := code) (maxLocals := maxLocals) (ret := ret) (by decide) ?_ ?_
  · intro args s m h hn
    obtain ⟨meth, c, h1, h2, h3, h4, h5, h6, -, -⟩ := Cond.code_spec hn (atoms_spec (ws := Jvm.Cond.code x code maxLocals ret :: tables_1) h _ List.mem_cons_self)
    exact ⟨meth, c, h1, h2, h3, h4, h5, h6⟩
  · intro p e s m args below meth c s₁ B hml0 hP _
    obtain ⟨rfl, hx, hbd, hgv⟩ := hP
    obtain ⟨scr, harrAt, hlist, hof, hsmall⟩ := hx
    obtain ⟨hcb, hkn, -, -⟩ := State.arrayAt?_spec harrAt
    have hown : s.vm.findClass R_law = some m.cls := findClass_of_methodNamed B.named
    have hts0 : ∀ c ∈ (Jvm.Cond.code x code maxLocals ret :: tables_1), c.before #[Value.ref b] s = true := atoms_spec (ws := Jvm.Cond.code x code maxLocals ret :: tables_1) B.pre
    have hts : ∀ w ∈ lw_tbl, w.before #[Value.ref b] s = true := k2_hts_sels lw_privs (fun w hw => hts0 w (List.mem_cons_of_mem _ hw)) lw_privs_ok
    have hml : c.maxLocals = 4 := B.maxLocals_eq (hts0 _ List.mem_cons_self)
    have X₀ : Stand p l e room_1 s m #[Value.ref b] below meth c s₁ [] 0 0 := Stand.of_body B
    have hh0 : s₁.heap = s.heap := by rw [B.state]; rfl
    have hsz : scr.slots.size = xs.length := by rw [← Array.length_toList, hlist, List.length_map]
    have hval : ∀ j : Nat, j < xs.length → scr.slots[j]? = some (.int (xs.getD j 0)) := fun j hj => by
      rw [← Array.getElem?_toList, hlist]
      simp [hj]
    have hbl : b < s.heap.size := (Array.getElem?_eq_some_iff.mp hcb).1
    have hX : va_X b xs.length (fun j => xs.getD j 0) s s.heap := ⟨scr, hcb, hof, hkn, hsz, hval⟩
    have K : W p l e room_1 s m #[Value.ref b] below meth c s₁.heap [] 0 0 (lw_Z below #[Value.ref b] s) (entryFrame m ([Value.ref b] : List Value).toArray 4) := by
      rw [hh0]
      exact whole_start l hbd ⟨B.exec, B.bytes, B.returns, hml, hown, hts, hX, hbl, B.notSynchronized, hgv⟩
    obtain ⟨t, a1, o, b1, b2, b3⟩ := K s₁ rfl X₀
    exact ⟨t, o, a1, b1, b2, b3⟩
theorem lw_pre_spec {args : Array Value} {s : State} (h : (Jvm.Cond.and given_1 narrow_1).before args s = true) (hr : rest_1_c.before args s = true) : ∃ (b : Addr) (xs : List Int32), lw_P b xs args s := by
  have hs := flat_of_before _ h
  have hq := flat_of_before _ hr
  have hc : (Cond.count 1).before args s = true := hs _ (by decide +kernel)
  have harr : (Cond.arrayOf (.arg 0) .int).before args s = true := hs _ (by decide +kernel)
  have hle : (Cond.le (.length (.arg 0)) (.int 2560)).before args s = true := hs _ (by decide +kernel)
  have hlen : (Cond.isInt (.length (.arg 0))).before args s = true := hq _ (by decide +kernel)
  have hall : (Cond.all (.arg 0) (.isInt (.elem (.arg 0) (.index 0)))).before args s = true := hq _ (by decide +kernel)
  obtain ⟨b, xs, hb, hx⟩ := State.ints_of_pre rfl harr hlen hall
  have hsm : xs.length < 2 ^ 31 := hx.choose_spec.2.2.2
  have hev : (Term.length (.arg 0)).eval args s none [] s = some (.int xs.length.toInt32) := hx.length_eval hb
  have hv := Cond.le_ints hev (show (Term.int 2560).eval args s none [] s = some (.int 2560) from rfl)
  have hd : xs.length.toInt32 ≤ 2560 := by
    simpa [Cond.before, Cond.holds, hv] using hle
  have hN : xs.length ≤ 2560 := (Int32.ofNat_le_ofNat hsm (by decide)).mp (show Int32.ofNat xs.length ≤ Int32.ofNat 2560 from hd)
  exact ⟨b, xs, Cond.one_arg hc (show args[0]? = some (.ref b) from hb), hx, hN, h⟩
theorem lw_comes (l : Launch) : Comes l x (Jvm.Cond.code x code maxLocals ret :: tables_1) room_1 (fun tb e args s => Calls_1 tb e args s ∧ rest_1 tb e args s ∧ Pre_1 tb e args s)
    (fun _ _ args s o t => lw_Q args s o t) := by
  intro p e ha hc hk s m args below hf hfit hheap happ hpre
  obtain ⟨b, xs, hP⟩ := lw_pre_spec hpre.2.2 hpre.2.1
  obtain ⟨k, o, h1, h2, h3, hQ⟩ := lw_walk l b xs p e ha hc hk s m args below hf ((Spec.applies_iff_loose hf).mp happ).1 hP trivial
  exact ⟨k, o, h1, h2, h3, hQ⟩
theorem lw_frame {s t : State} {o : Outcome} {args : Array Value} (h : Framed s o t [] 600000 7302250) :
    Framed s o t (fieldLocs frame_1_writes args s ++ arrayLocs frame_1_arrays args s ++ staticLocs frame_1_statics s) 600000 7302250 := h
theorem lw_limb (L : Cond) (hL : ∀ (args : Array Value) (s t : State), L.after args s (.returned (some (.int 1))) t = true) :
    ArmFor flags0 classFile x code maxLocals ret World_1 tables_1 room_1 Calls_1 rest_1 Pre_1
      (fun tb e a s o t => postC L tb e a s o t ∧ Framed s o t (fieldLocs frame_1_writes a s ++ arrayLocs frame_1_arrays a s ++ staticLocs frame_1_statics s) 600000 7302250) := by
  intro l _ _ _ p e ha hc hk s m args below hf hfit hheap happ hpre
  obtain ⟨k, o, h1, h2, h3, rfl, hF⟩ := lw_comes l p e ha hc hk s m args below hf hfit hheap happ hpre
  exact ⟨k, _, h1, h2, h3, hL args s _, lw_frame hF⟩
theorem i_vc : Claimed_1_1 ∧ Claimed_1_2 := ⟨lw_limb limb_1_1 (fun args s t => by simp [limb_1_1, Cond.after, Cond.holds, Cond.value]), lw_limb limb_1_2 (fun args s t => Cond.after_iff.mpr (by
  first | (rw [show limb_1_2 = Cond.eq .result (.int 1) from rfl, Cond.eq_ints (x := 1) (y := 1) rfl rfl]; simp; done) | (simp [limb_1_2, Cond.value, Term.eval]; done)))⟩
end
