/-! ===== BEGIN words of one list among another's, by their places ===== -/
theorem goodIn_r {big : List Cond} (ws : List Cond) (ps : List Nat) (hp : ws = ps.filterMap (fun i => big[i]?)) (h : ws.all goodWord = true) : GoodIn big ws := by
  intro w hw
  have h1 := List.all_eq_true.mp h w hw
  rw [hp] at hw
  obtain ⟨i, -, hi⟩ := List.mem_filterMap.mp hw
  have hm : w ∈ big := by first | exact List.mem_of_getElem? hi | exact List.getElem?_mem hi
  exact ⟨hm, good_of_word h1⟩
theorem goodIn_app {big a b : List Cond} (ha : GoodIn big a) (hb : GoodIn big b) : GoodIn big (a ++ b) := fun w h => (List.mem_append.mp h).elim (ha w) (hb w)
theorem goodIn_ca {big a b : List Cond} {c : Cond} (ha : GoodIn big (c :: a)) (hb : GoodIn big b) : GoodIn big (c :: (a ++ b)) := fun w h => (List.mem_cons.mp h).elim (fun e => ha w (List.mem_cons.mpr (Or.inl e))) (fun h => (List.mem_append.mp h).elim (fun h => ha w (List.mem_cons.mpr (Or.inr h))) (hb w))
theorem goodIn_sub {big ws : List Cond} (hm : ∀ w ∈ ws, w ∈ big) (h : ws.all goodWord = true) : GoodIn big ws := fun w hw => ⟨hm w hw, good_of_word (List.all_eq_true.mp h w hw)⟩
/-! ===== END ===== -/

/-! ===== BEGIN printed: names, fields, word lists, decode rows ===== -/
def RX0 : String := "ForkedPages$Space"
def TX0 : u_T := fun k => match k with
  | 0 => ("ForkedPages$Space", "runs", "Z", false)
  | 1 => ("ForkedPages$Space", "mapped", "J", false)
  | 2 => ("ForkedPages$Space", "frames", "[I", true)
  | _ => ("ForkedPages$Space", "kinds", "[I", true)
def tyX0 : Nat → FieldType := fun k => match k with
  | 0 => .boolean
  | 1 => .long
  | 2 => .array .int
  | _ => .array .int
abbrev wsX00 : List Cond := u_ws RX0 TX0 4
theorem nmX0 : ∀ a, a < 4 → ∀ b, b < 4 → a ≠ b → (TX0 a).2.1 ≠ (TX0 b).2.1 := by decide +kernel
theorem tyX0_ok : ∀ k, k < 4 → parseFieldDescriptor (TX0 k).2.2.1 = some (tyX0 k) := by decide +kernel
abbrev cX0_init : ByteArray := prog_2_method_1_code
def yX0_init : MethodName := ⟨RX0, "<init>", "()V"⟩
abbrev cX0_has : ByteArray := prog_2_method_2_code
def yX0_has : MethodName := ⟨RX0, "has", "(I)Z"⟩
abbrev cX0_is : ByteArray := prog_2_method_3_code
def yX0_is : MethodName := ⟨RX0, "is", "(II)Z"⟩
abbrev cX0_turn : ByteArray := prog_2_method_4_code
def yX0_turn : MethodName := ⟨RX0, "turn", "(II)V"⟩
abbrev cX0_set : ByteArray := prog_2_method_5_code
def yX0_set : MethodName := ⟨RX0, "set", "(III)V"⟩
abbrev cX0_clear : ByteArray := prog_2_method_6_code
def yX0_clear : MethodName := ⟨RX0, "clear", "(I)V"⟩
abbrev cX0_tableCount : ByteArray := prog_2_method_7_code
def yX0_tableCount : MethodName := ⟨RX0, "tableCount", "()I"⟩
abbrev cX0_tablesToAdd : ByteArray := prog_2_method_8_code
def yX0_tablesToAdd : MethodName := ⟨RX0, "tablesToAdd", "(I)I"⟩
abbrev cX0_tablesFor : ByteArray := prog_2_method_9_code
def yX0_tablesFor : MethodName := ⟨RX0, "tablesFor", "(J)I"⟩
abbrev cX0_spansUsed : ByteArray := prog_2_method_10_code
def yX0_spansUsed : MethodName := ⟨RX0, "spansUsed", "(JI)I"⟩
def RX1 : String := "ForkedPages$Store"
def TX1 : u_T := fun k => match k with
  | 0 => ("ForkedPages$Store", "words", "[I", true)
  | _ => ("ForkedPages$Store", "counts", "[I", true)
def tyX1 : Nat → FieldType := fun k => match k with
  | 0 => .array .int
  | _ => .array .int
abbrev wsX10 : List Cond := u_ws RX1 TX1 2
theorem nmX1 : ∀ a, a < 2 → ∀ b, b < 2 → a ≠ b → (TX1 a).2.1 ≠ (TX1 b).2.1 := by decide +kernel
theorem tyX1_ok : ∀ k, k < 2 → parseFieldDescriptor (TX1 k).2.2.1 = some (tyX1 k) := by decide +kernel
abbrev cX1_init : ByteArray := prog_3_method_1_code
def yX1_init : MethodName := ⟨RX1, "<init>", "()V"⟩
abbrev cX1_usedFrames : ByteArray := prog_3_method_2_code
def yX1_usedFrames : MethodName := ⟨RX1, "usedFrames", "()I"⟩
abbrev cX1_unusedFrame : ByteArray := prog_3_method_3_code
def yX1_unusedFrame : MethodName := ⟨RX1, "unusedFrame", "()I"⟩
abbrev cX1_blank : ByteArray := prog_3_method_4_code
def yX1_blank : MethodName := ⟨RX1, "blank", "(I)V"⟩
abbrev cX1_copy : ByteArray := prog_3_method_5_code
def yX1_copy : MethodName := ⟨RX1, "copy", "(II)V"⟩
def RX2 : String := "ForkedPages"
def TX2 : u_T := fun k => match k with
  | 0 => ("ForkedPages", "spaces", "[LForkedPages$Space;", true)
  | 1 => ("ForkedPages", "store", "LForkedPages$Store;", true)
  | 2 => ("ForkedPages", "allFaults", "I", false)
  | _ => ("ForkedPages", "copyFaults", "I", false)
def tyX2 : Nat → FieldType := fun k => match k with
  | 0 => .array (.object "ForkedPages$Space")
  | 1 => .object "ForkedPages$Store"
  | 2 => .int
  | _ => .int
abbrev wsX20 : List Cond := u_ws RX2 TX2 4
theorem nmX2 : ∀ a, a < 4 → ∀ b, b < 4 → a ≠ b → (TX2 a).2.1 ≠ (TX2 b).2.1 := by decide +kernel
theorem tyX2_ok : ∀ k, k < 4 → parseFieldDescriptor (TX2 k).2.2.1 = some (tyX2 k) := by decide +kernel
abbrev cX2_init : ByteArray := prog_1_method_1_code
def yX2_init : MethodName := ⟨RX2, "<init>", "()V"⟩
abbrev cX2_spawn : ByteArray := prog_1_method_2_code
def yX2_spawn : MethodName := ⟨RX2, "spawn", "()I"⟩
abbrev cX2_fork : ByteArray := prog_1_method_3_code
def yX2_fork : MethodName := ⟨RX2, "fork", "(I)I"⟩
abbrev cX2_exit : ByteArray := prog_1_method_4_code
def yX2_exit : MethodName := ⟨RX2, "exit", "(I)I"⟩
abbrev cX2_map : ByteArray := prog_1_method_5_code
def yX2_map : MethodName := ⟨RX2, "map", "(IIZ)I"⟩
abbrev cX2_attach : ByteArray := prog_1_method_6_code
def yX2_attach : MethodName := ⟨RX2, "attach", "(IIII)I"⟩
abbrev cX2_unmap : ByteArray := prog_1_method_7_code
def yX2_unmap : MethodName := ⟨RX2, "unmap", "(II)I"⟩
abbrev cX2_protect : ByteArray := prog_1_method_8_code
def yX2_protect : MethodName := ⟨RX2, "protect", "(IIZ)I"⟩
abbrev cX2_write : ByteArray := prog_1_method_9_code
def yX2_write : MethodName := ⟨RX2, "write", "(III)I"⟩
abbrev cX2_read : ByteArray := prog_1_method_10_code
def yX2_read : MethodName := ⟨RX2, "read", "(II)J"⟩
abbrev cX2_free : ByteArray := prog_1_method_11_code
def yX2_free : MethodName := ⟨RX2, "free", "()I"⟩
abbrev cX2_tables : ByteArray := prog_1_method_12_code
def yX2_tables : MethodName := ⟨RX2, "tables", "(I)I"⟩
abbrev cX2_pages : ByteArray := prog_1_method_13_code
def yX2_pages : MethodName := ⟨RX2, "pages", "(I)I"⟩
abbrev cX2_count : ByteArray := prog_1_method_14_code
def yX2_count : MethodName := ⟨RX2, "count", "(II)I"⟩
abbrev cX2_mapping : ByteArray := prog_1_method_15_code
def yX2_mapping : MethodName := ⟨RX2, "mapping", "(II)I"⟩
abbrev cX2_twin : ByteArray := prog_1_method_16_code
def yX2_twin : MethodName := ⟨RX2, "twin", "(IIII)I"⟩
abbrev cX2_running : ByteArray := prog_1_method_17_code
def yX2_running : MethodName := ⟨RX2, "running", "()I"⟩
abbrev cX2_faults : ByteArray := prog_1_method_18_code
def yX2_faults : MethodName := ⟨RX2, "faults", "(Z)I"⟩
abbrev cX2_isRunning : ByteArray := prog_1_method_19_code
def yX2_isRunning : MethodName := ⟨RX2, "isRunning", "(I)Z"⟩
abbrev cX2_isPage : ByteArray := prog_1_method_20_code
def yX2_isPage : MethodName := ⟨RX2, "isPage", "(I)Z"⟩
abbrev cX2_refusalOfMapped : ByteArray := prog_1_method_21_code
def yX2_refusalOfMapped : MethodName := ⟨RX2, "refusalOfMapped", "(II)I"⟩
abbrev cX2_refusalOfAddress : ByteArray := prog_1_method_22_code
def yX2_refusalOfAddress : MethodName := ⟨RX2, "refusalOfAddress", "(II)I"⟩
abbrev cX2_leastIdle : ByteArray := prog_1_method_23_code
def yX2_leastIdle : MethodName := ⟨RX2, "leastIdle", "()I"⟩
abbrev cX2_freeFrames : ByteArray := prog_1_method_24_code
def yX2_freeFrames : MethodName := ⟨RX2, "freeFrames", "()I"⟩
abbrev cX2_startMapping : ByteArray := prog_1_method_25_code
def yX2_startMapping : MethodName := ⟨RX2, "startMapping", "(LForkedPages$Space;III)V"⟩
abbrev cX2_endMapping : ByteArray := prog_1_method_26_code
def yX2_endMapping : MethodName := ⟨RX2, "endMapping", "(LForkedPages$Space;I)V"⟩
abbrev cX2_sharePage : ByteArray := prog_1_method_27_code
def yX2_sharePage : MethodName := ⟨RX2, "sharePage", "(LForkedPages$Space;LForkedPages$Space;I)V"⟩
abbrev cX2_resolveFault : ByteArray := prog_1_method_28_code
def yX2_resolveFault : MethodName := ⟨RX2, "resolveFault", "(LForkedPages$Space;I)I"⟩
def RX3 : String := "ForkedPagesModel"
def TX3 : u_T := fun k => match k with
  | _ => ("", "", "", false)
def tyX3 : Nat → FieldType := fun k => match k with
  | _ => .int
abbrev wsX30 : List Cond := u_ws RX3 TX3 0
theorem nmX3 : ∀ a, a < 0 → ∀ b, b < 0 → a ≠ b → (TX3 a).2.1 ≠ (TX3 b).2.1 := by decide +kernel
theorem tyX3_ok : ∀ k, k < 0 → parseFieldDescriptor (TX3 k).2.2.1 = some (tyX3 k) := by decide +kernel
abbrev cX3_init : ByteArray := prog_5_method_1_code
def yX3_init : MethodName := ⟨RX3, "<init>", "()V"⟩
def RJ13 : String := "java/lang/Long"
def TJ13 : u_T := fun k => match k with
  | _ => ("", "", "", false)
def tyJ13 : Nat → FieldType := fun k => match k with
  | _ => .int
abbrev wsJ130 : List Cond := u_ws RJ13 TJ13 0
theorem nmJ13 : ∀ a, a < 0 → ∀ b, b < 0 → a ≠ b → (TJ13 a).2.1 ≠ (TJ13 b).2.1 := by decide +kernel
theorem tyJ13_ok : ∀ k, k < 0 → parseFieldDescriptor (TJ13 k).2.2.1 = some (tyJ13 k) := by decide +kernel
abbrev cJ13_bitCount_95d88 : ByteArray := prog_6_method_50_code
def yJ13_bitCount_95d88 : MethodName := ⟨RJ13, "bitCount", "(J)I"⟩
def RL : String := "ForkedPagesLaw"
abbrev cL_law : ByteArray := code
def yL_law : MethodName := ⟨RL, "law", "([I)Z"⟩
def wsX0_init : List Cond := .code yX0_init cX0_init 1 none :: ([.methodLink RX0 3 objectInit, .instanceMethod objectInit, .code objectInit ⟨#[0xb1]⟩ 1 none, .arrayClass .int, .fieldLink RX0 9 "ForkedPages$Space" "frames" "[I", .fieldLink RX0 15 "ForkedPages$Space" "kinds" "[I"] ++ wsX00)
def wsX0_has : List Cond := .code yX0_has cX0_has 2 (some .boolean) :: ([.fieldLink RX0 18 "ForkedPages$Space" "mapped" "J"] ++ wsX00)
def wsX0_is : List Cond := .code yX0_is cX0_is 3 (some .boolean) :: ([.fieldLink RX0 15 "ForkedPages$Space" "kinds" "[I"] ++ wsX00)
def wsX0_turn : List Cond := .code yX0_turn cX0_turn 3 none :: ([.fieldLink RX0 15 "ForkedPages$Space" "kinds" "[I"] ++ wsX00)
def wsX0_set : List Cond := .code yX0_set cX0_set 4 none :: ([.fieldLink RX0 18 "ForkedPages$Space" "mapped" "J", .fieldLink RX0 9 "ForkedPages$Space" "frames" "[I", .fieldLink RX0 15 "ForkedPages$Space" "kinds" "[I"] ++ wsX00)
def wsX0_clear : List Cond := .code yX0_clear cX0_clear 2 none :: ([.fieldLink RX0 18 "ForkedPages$Space" "mapped" "J", .constantLong RX0 22 (-1)] ++ wsX00)
def wsX0_spansUsed : List Cond := .code yX0_spansUsed cX0_spansUsed 7 (some .int) :: ([])
def wsX0_tablesFor : List Cond := .code yX0_tablesFor cX0_tablesFor 2 (some .int) :: ([.methodLink RX0 28 yX0_spansUsed, .static yX0_spansUsed, .initialized RX0, .code yX0_spansUsed cX0_spansUsed 7 (some .int)])
def wsX0_tableCount : List Cond := .code yX0_tableCount cX0_tableCount 1 (some .int) :: ([.fieldLink RX0 18 "ForkedPages$Space" "mapped" "J", .methodLink RX0 24 yX0_tablesFor, .static yX0_tablesFor, .initialized RX0, .code yX0_tablesFor cX0_tablesFor 2 (some .int), .methodLink RX0 28 yX0_spansUsed, .static yX0_spansUsed, .code yX0_spansUsed cX0_spansUsed 7 (some .int)] ++ wsX00)
def wsX0_tablesToAdd : List Cond := .code yX0_tablesToAdd cX0_tablesToAdd 2 (some .int) :: ([.fieldLink RX0 18 "ForkedPages$Space" "mapped" "J", .methodLink RX0 24 yX0_tablesFor, .static yX0_tablesFor, .initialized RX0, .code yX0_tablesFor cX0_tablesFor 2 (some .int), .methodLink RX0 28 yX0_spansUsed, .static yX0_spansUsed, .code yX0_spansUsed cX0_spansUsed 7 (some .int)] ++ wsX00)
def wsX1_init : List Cond := .code yX1_init cX1_init 1 none :: ([.methodLink RX1 3 objectInit, .instanceMethod objectInit, .code objectInit ⟨#[0xb1]⟩ 1 none, .arrayClass .int, .fieldLink RX1 9 "ForkedPages$Store" "words" "[I", .fieldLink RX1 15 "ForkedPages$Store" "counts" "[I"] ++ wsX10)
def wsX1_usedFrames : List Cond := .code yX1_usedFrames cX1_usedFrames 3 (some .int) :: ([.fieldLink RX1 15 "ForkedPages$Store" "counts" "[I"] ++ wsX10)
def wsX1_unusedFrame : List Cond := .code yX1_unusedFrame cX1_unusedFrame 2 (some .int) :: ([.fieldLink RX1 15 "ForkedPages$Store" "counts" "[I"] ++ wsX10)
def wsX1_blank : List Cond := .code yX1_blank cX1_blank 3 none :: ([.fieldLink RX1 9 "ForkedPages$Store" "words" "[I"] ++ wsX10)
def wsX1_copy : List Cond := .code yX1_copy cX1_copy 4 none :: ([.fieldLink RX1 9 "ForkedPages$Store" "words" "[I"] ++ wsX10)
def wsX2_init : List Cond := .code yX2_init cX2_init 2 none :: ([.methodLink RX2 1 objectInit, .instanceMethod objectInit, .code objectInit ⟨#[0xb1]⟩ 1 none, .classLink RX2 9 RX0, .fieldLink RX2 11 "ForkedPages" "spaces" "[LForkedPages$Space;", .instantiable RX0 4, .initialized RX0, .classLink RX2 16 RX1, .instantiable RX1 2, .initialized RX1, .fieldLink RX2 19 "ForkedPages" "store" "LForkedPages$Store;", .instanceMethod yX0_init, .code yX0_init cX0_init 1 none, .methodLink RX0 3 objectInit, .arrayClass .int, .fieldLink RX0 9 "ForkedPages$Space" "frames" "[I", .fieldLink RX0 15 "ForkedPages$Space" "kinds" "[I", .instanceMethod yX1_init, .code yX1_init cX1_init 1 none, .methodLink RX1 3 objectInit, .fieldLink RX1 9 "ForkedPages$Store" "words" "[I", .fieldLink RX1 15 "ForkedPages$Store" "counts" "[I"] ++ wsX20 ++ wsX00 ++ wsX10)
def wsX2_leastIdle : List Cond := .code yX2_leastIdle cX2_leastIdle 2 (some .int) :: ([.fieldLink RX2 11 "ForkedPages" "spaces" "[LForkedPages$Space;"] ++ wsX20 ++ wsX00)
def wsX2_freeFrames : List Cond := .code yX2_freeFrames cX2_freeFrames 3 (some .int) :: ([.fieldLink RX2 19 "ForkedPages" "store" "LForkedPages$Store;", .fieldLink RX2 11 "ForkedPages" "spaces" "[LForkedPages$Space;", .instanceMethod yX1_usedFrames, .initialized RX1, .selects RX1 yX1_usedFrames yX1_usedFrames, .code yX1_usedFrames cX1_usedFrames 3 (some .int), .fieldLink RX1 15 "ForkedPages$Store" "counts" "[I", .instanceMethod yX0_tableCount, .initialized RX0, .selects RX0 yX0_tableCount yX0_tableCount, .code yX0_tableCount cX0_tableCount 1 (some .int), .fieldLink RX0 18 "ForkedPages$Space" "mapped" "J", .methodLink RX0 24 yX0_tablesFor, .static yX0_tablesFor, .code yX0_tablesFor cX0_tablesFor 2 (some .int), .methodLink RX0 28 yX0_spansUsed, .static yX0_spansUsed, .code yX0_spansUsed cX0_spansUsed 7 (some .int)] ++ wsX20 ++ wsX00 ++ wsX10)
def wsX2_spawn_r1 : List Cond := [Cond.fieldLink RX2 11 "ForkedPages" "spaces" "[LForkedPages$Space;", Cond.methodLink RX2 23 yX2_leastIdle, Cond.instanceMethod yX2_leastIdle, Cond.selects RX2 yX2_leastIdle yX2_leastIdle, Cond.initialized RX2, Cond.code yX2_leastIdle cX2_leastIdle 2 (some .int), Cond.methodLink RX2 27 yX2_freeFrames, Cond.instanceMethod yX2_freeFrames, Cond.selects RX2 yX2_freeFrames yX2_freeFrames, Cond.code yX2_freeFrames cX2_freeFrames 3 (some .int), Cond.fieldLink RX2 19 "ForkedPages" "store" "LForkedPages$Store;", Cond.instanceMethod yX1_usedFrames, Cond.initialized RX1, Cond.selects RX1 yX1_usedFrames yX1_usedFrames, Cond.code yX1_usedFrames cX1_usedFrames 3 (some .int), Cond.fieldLink RX1 15 "ForkedPages$Store" "counts" "[I", Cond.instanceMethod yX0_tableCount, Cond.initialized RX0, Cond.selects RX0 yX0_tableCount yX0_tableCount, Cond.code yX0_tableCount cX0_tableCount 1 (some .int), Cond.fieldLink RX0 18 "ForkedPages$Space" "mapped" "J", Cond.methodLink RX0 24 yX0_tablesFor, Cond.static yX0_tablesFor, Cond.code yX0_tablesFor cX0_tablesFor 2 (some .int)]
def wsX2_spawn_r2 : List Cond := [Cond.methodLink RX0 28 yX0_spansUsed, Cond.static yX0_spansUsed, Cond.code yX0_spansUsed cX0_spansUsed 7 (some .int)]
def wsX2_spawn : List Cond := .code yX2_spawn cX2_spawn 2 (some .int) :: ((wsX2_spawn_r1 ++ wsX2_spawn_r2) ++ wsX20 ++ wsX00 ++ wsX10)
def wsX2_isRunning : List Cond := .code yX2_isRunning cX2_isRunning 2 (some .boolean) :: ([.fieldLink RX2 11 "ForkedPages" "spaces" "[LForkedPages$Space;"] ++ wsX20 ++ wsX00)
def wsX2_startMapping : List Cond := .code yX2_startMapping cX2_startMapping 5 none :: ([.fieldLink RX2 19 "ForkedPages" "store" "LForkedPages$Store;", .instanceMethod yX0_set, .initialized RX0, .selects RX0 yX0_set yX0_set, .code yX0_set cX0_set 4 none, .fieldLink RX0 18 "ForkedPages$Space" "mapped" "J", .fieldLink RX0 9 "ForkedPages$Space" "frames" "[I", .fieldLink RX0 15 "ForkedPages$Space" "kinds" "[I"] ++ wsX20 ++ wsX10 ++ wsX00)
def wsX2_sharePage : List Cond := .code yX2_sharePage cX2_sharePage 4 none :: ([.instanceMethod yX0_is, .initialized RX0, .selects RX0 yX0_is yX0_is, .code yX0_is cX0_is 3 (some .boolean), .fieldLink RX0 15 "ForkedPages$Space" "kinds" "[I", .instanceMethod yX0_turn, .selects RX0 yX0_turn yX0_turn, .code yX0_turn cX0_turn 3 none, .methodLink RX2 70 yX2_startMapping, .instanceMethod yX2_startMapping, .selects RX2 yX2_startMapping yX2_startMapping, .initialized RX2, .code yX2_startMapping cX2_startMapping 5 none, .fieldLink RX2 19 "ForkedPages" "store" "LForkedPages$Store;", .instanceMethod yX0_set, .selects RX0 yX0_set yX0_set, .code yX0_set cX0_set 4 none, .fieldLink RX0 18 "ForkedPages$Space" "mapped" "J", .fieldLink RX0 9 "ForkedPages$Space" "frames" "[I"] ++ wsX00 ++ wsX20 ++ wsX10)
def wsX2_fork_r1 : List Cond := [Cond.fieldLink RX2 11 "ForkedPages" "spaces" "[LForkedPages$Space;", Cond.methodLink RX2 38 yX2_isRunning, Cond.instanceMethod yX2_isRunning, Cond.selects RX2 yX2_isRunning yX2_isRunning, Cond.initialized RX2, Cond.code yX2_isRunning cX2_isRunning 2 (some .boolean), Cond.methodLink RX2 23 yX2_leastIdle, Cond.instanceMethod yX2_leastIdle, Cond.selects RX2 yX2_leastIdle yX2_leastIdle, Cond.code yX2_leastIdle cX2_leastIdle 2 (some .int), Cond.methodLink RX2 27 yX2_freeFrames, Cond.instanceMethod yX2_freeFrames, Cond.selects RX2 yX2_freeFrames yX2_freeFrames, Cond.code yX2_freeFrames cX2_freeFrames 3 (some .int), Cond.fieldLink RX2 19 "ForkedPages" "store" "LForkedPages$Store;", Cond.instanceMethod yX1_usedFrames, Cond.initialized RX1, Cond.selects RX1 yX1_usedFrames yX1_usedFrames, Cond.code yX1_usedFrames cX1_usedFrames 3 (some .int), Cond.fieldLink RX1 15 "ForkedPages$Store" "counts" "[I", Cond.instanceMethod yX0_tableCount, Cond.initialized RX0, Cond.selects RX0 yX0_tableCount yX0_tableCount, Cond.code yX0_tableCount cX0_tableCount 1 (some .int)]
def wsX2_fork_r2 : List Cond := [Cond.fieldLink RX0 18 "ForkedPages$Space" "mapped" "J", Cond.methodLink RX0 24 yX0_tablesFor, Cond.static yX0_tablesFor, Cond.code yX0_tablesFor cX0_tablesFor 2 (some .int), Cond.methodLink RX0 28 yX0_spansUsed, Cond.static yX0_spansUsed, Cond.code yX0_spansUsed cX0_spansUsed 7 (some .int), Cond.instanceMethod yX0_has, Cond.selects RX0 yX0_has yX0_has, Cond.code yX0_has cX0_has 2 (some .boolean), Cond.methodLink RX2 48 yX2_sharePage, Cond.instanceMethod yX2_sharePage, Cond.selects RX2 yX2_sharePage yX2_sharePage, Cond.code yX2_sharePage cX2_sharePage 4 none, Cond.instanceMethod yX0_is, Cond.selects RX0 yX0_is yX0_is, Cond.code yX0_is cX0_is 3 (some .boolean), Cond.fieldLink RX0 15 "ForkedPages$Space" "kinds" "[I", Cond.instanceMethod yX0_turn, Cond.selects RX0 yX0_turn yX0_turn, Cond.code yX0_turn cX0_turn 3 none, Cond.methodLink RX2 70 yX2_startMapping, Cond.instanceMethod yX2_startMapping, Cond.selects RX2 yX2_startMapping yX2_startMapping]
def wsX2_fork_r3 : List Cond := [Cond.code yX2_startMapping cX2_startMapping 5 none, Cond.instanceMethod yX0_set, Cond.selects RX0 yX0_set yX0_set, Cond.code yX0_set cX0_set 4 none, Cond.fieldLink RX0 9 "ForkedPages$Space" "frames" "[I"]
def wsX2_fork : List Cond := .code yX2_fork cX2_fork 6 (some .int) :: ((wsX2_fork_r1 ++ (wsX2_fork_r2 ++ wsX2_fork_r3)) ++ wsX20 ++ wsX00 ++ wsX10)
def wsX2_endMapping : List Cond := .code yX2_endMapping cX2_endMapping 3 none :: ([.fieldLink RX2 19 "ForkedPages" "store" "LForkedPages$Store;", .instanceMethod yX0_clear, .initialized RX0, .selects RX0 yX0_clear yX0_clear, .code yX0_clear cX0_clear 2 none, .fieldLink RX0 18 "ForkedPages$Space" "mapped" "J", .constantLong RX0 22 (-1)] ++ wsX20 ++ wsX10 ++ wsX00)
def wsX2_exit_r1 : List Cond := [Cond.fieldLink RX2 11 "ForkedPages" "spaces" "[LForkedPages$Space;", Cond.methodLink RX2 38 yX2_isRunning, Cond.instanceMethod yX2_isRunning, Cond.selects RX2 yX2_isRunning yX2_isRunning, Cond.initialized RX2, Cond.code yX2_isRunning cX2_isRunning 2 (some .boolean), Cond.methodLink RX2 27 yX2_freeFrames, Cond.instanceMethod yX2_freeFrames, Cond.selects RX2 yX2_freeFrames yX2_freeFrames, Cond.code yX2_freeFrames cX2_freeFrames 3 (some .int), Cond.fieldLink RX2 19 "ForkedPages" "store" "LForkedPages$Store;", Cond.instanceMethod yX1_usedFrames, Cond.initialized RX1, Cond.selects RX1 yX1_usedFrames yX1_usedFrames, Cond.code yX1_usedFrames cX1_usedFrames 3 (some .int), Cond.fieldLink RX1 15 "ForkedPages$Store" "counts" "[I", Cond.instanceMethod yX0_tableCount, Cond.initialized RX0, Cond.selects RX0 yX0_tableCount yX0_tableCount, Cond.code yX0_tableCount cX0_tableCount 1 (some .int), Cond.fieldLink RX0 18 "ForkedPages$Space" "mapped" "J", Cond.methodLink RX0 24 yX0_tablesFor, Cond.static yX0_tablesFor, Cond.code yX0_tablesFor cX0_tablesFor 2 (some .int)]
def wsX2_exit_r2 : List Cond := [Cond.methodLink RX0 28 yX0_spansUsed, Cond.static yX0_spansUsed, Cond.code yX0_spansUsed cX0_spansUsed 7 (some .int), Cond.instanceMethod yX0_has, Cond.selects RX0 yX0_has yX0_has, Cond.code yX0_has cX0_has 2 (some .boolean), Cond.methodLink RX2 52 yX2_endMapping, Cond.instanceMethod yX2_endMapping, Cond.selects RX2 yX2_endMapping yX2_endMapping, Cond.code yX2_endMapping cX2_endMapping 3 none, Cond.instanceMethod yX0_clear, Cond.selects RX0 yX0_clear yX0_clear, Cond.code yX0_clear cX0_clear 2 none, Cond.constantLong RX0 22 (-1)]
def wsX2_exit : List Cond := .code yX2_exit cX2_exit 5 (some .int) :: ((wsX2_exit_r1 ++ wsX2_exit_r2) ++ wsX20 ++ wsX00 ++ wsX10)
def wsX2_isPage : List Cond := .code yX2_isPage cX2_isPage 1 (some .boolean) :: ([])
def wsX2_map_r1 : List Cond := [Cond.fieldLink RX2 11 "ForkedPages" "spaces" "[LForkedPages$Space;", Cond.fieldLink RX2 19 "ForkedPages" "store" "LForkedPages$Store;", Cond.methodLink RX2 38 yX2_isRunning, Cond.instanceMethod yX2_isRunning, Cond.selects RX2 yX2_isRunning yX2_isRunning, Cond.initialized RX2, Cond.code yX2_isRunning cX2_isRunning 2 (some .boolean), Cond.methodLink RX2 56 yX2_isPage, Cond.static yX2_isPage, Cond.code yX2_isPage cX2_isPage 1 (some .boolean), Cond.instanceMethod yX0_has, Cond.initialized RX0, Cond.selects RX0 yX0_has yX0_has, Cond.code yX0_has cX0_has 2 (some .boolean), Cond.fieldLink RX0 18 "ForkedPages$Space" "mapped" "J", Cond.instanceMethod yX0_tablesToAdd, Cond.selects RX0 yX0_tablesToAdd yX0_tablesToAdd, Cond.code yX0_tablesToAdd cX0_tablesToAdd 2 (some .int), Cond.methodLink RX0 24 yX0_tablesFor, Cond.static yX0_tablesFor, Cond.code yX0_tablesFor cX0_tablesFor 2 (some .int), Cond.methodLink RX0 28 yX0_spansUsed, Cond.static yX0_spansUsed, Cond.code yX0_spansUsed cX0_spansUsed 7 (some .int)]
def wsX2_map_r2 : List Cond := [Cond.methodLink RX2 27 yX2_freeFrames, Cond.instanceMethod yX2_freeFrames, Cond.selects RX2 yX2_freeFrames yX2_freeFrames, Cond.code yX2_freeFrames cX2_freeFrames 3 (some .int), Cond.instanceMethod yX1_usedFrames, Cond.initialized RX1, Cond.selects RX1 yX1_usedFrames yX1_usedFrames, Cond.code yX1_usedFrames cX1_usedFrames 3 (some .int), Cond.fieldLink RX1 15 "ForkedPages$Store" "counts" "[I", Cond.instanceMethod yX0_tableCount, Cond.selects RX0 yX0_tableCount yX0_tableCount, Cond.code yX0_tableCount cX0_tableCount 1 (some .int), Cond.instanceMethod yX1_unusedFrame, Cond.selects RX1 yX1_unusedFrame yX1_unusedFrame, Cond.code yX1_unusedFrame cX1_unusedFrame 2 (some .int), Cond.instanceMethod yX1_blank, Cond.selects RX1 yX1_blank yX1_blank, Cond.code yX1_blank cX1_blank 3 none, Cond.fieldLink RX1 9 "ForkedPages$Store" "words" "[I", Cond.methodLink RX2 70 yX2_startMapping, Cond.instanceMethod yX2_startMapping, Cond.selects RX2 yX2_startMapping yX2_startMapping, Cond.code yX2_startMapping cX2_startMapping 5 none, Cond.instanceMethod yX0_set]
def wsX2_map_r3 : List Cond := [Cond.selects RX0 yX0_set yX0_set, Cond.code yX0_set cX0_set 4 none, Cond.fieldLink RX0 9 "ForkedPages$Space" "frames" "[I", Cond.fieldLink RX0 15 "ForkedPages$Space" "kinds" "[I"]
def wsX2_map : List Cond := .code yX2_map cX2_map 7 (some .int) :: ((wsX2_map_r1 ++ (wsX2_map_r2 ++ wsX2_map_r3)) ++ wsX20 ++ wsX00 ++ wsX10)
def wsX2_attach_r1 : List Cond := [Cond.fieldLink RX2 11 "ForkedPages" "spaces" "[LForkedPages$Space;", Cond.methodLink RX2 38 yX2_isRunning, Cond.instanceMethod yX2_isRunning, Cond.selects RX2 yX2_isRunning yX2_isRunning, Cond.initialized RX2, Cond.code yX2_isRunning cX2_isRunning 2 (some .boolean), Cond.methodLink RX2 56 yX2_isPage, Cond.static yX2_isPage, Cond.code yX2_isPage cX2_isPage 1 (some .boolean), Cond.instanceMethod yX0_has, Cond.initialized RX0, Cond.selects RX0 yX0_has yX0_has, Cond.code yX0_has cX0_has 2 (some .boolean), Cond.fieldLink RX0 18 "ForkedPages$Space" "mapped" "J", Cond.instanceMethod yX0_is, Cond.selects RX0 yX0_is yX0_is, Cond.code yX0_is cX0_is 3 (some .boolean), Cond.fieldLink RX0 15 "ForkedPages$Space" "kinds" "[I", Cond.instanceMethod yX0_tablesToAdd, Cond.selects RX0 yX0_tablesToAdd yX0_tablesToAdd, Cond.code yX0_tablesToAdd cX0_tablesToAdd 2 (some .int), Cond.methodLink RX0 24 yX0_tablesFor, Cond.static yX0_tablesFor, Cond.code yX0_tablesFor cX0_tablesFor 2 (some .int)]
def wsX2_attach_r2 : List Cond := [Cond.methodLink RX0 28 yX0_spansUsed, Cond.static yX0_spansUsed, Cond.code yX0_spansUsed cX0_spansUsed 7 (some .int), Cond.methodLink RX2 27 yX2_freeFrames, Cond.instanceMethod yX2_freeFrames, Cond.selects RX2 yX2_freeFrames yX2_freeFrames, Cond.code yX2_freeFrames cX2_freeFrames 3 (some .int), Cond.fieldLink RX2 19 "ForkedPages" "store" "LForkedPages$Store;", Cond.instanceMethod yX1_usedFrames, Cond.initialized RX1, Cond.selects RX1 yX1_usedFrames yX1_usedFrames, Cond.code yX1_usedFrames cX1_usedFrames 3 (some .int), Cond.fieldLink RX1 15 "ForkedPages$Store" "counts" "[I", Cond.instanceMethod yX0_tableCount, Cond.selects RX0 yX0_tableCount yX0_tableCount, Cond.code yX0_tableCount cX0_tableCount 1 (some .int), Cond.methodLink RX2 70 yX2_startMapping, Cond.instanceMethod yX2_startMapping, Cond.selects RX2 yX2_startMapping yX2_startMapping, Cond.code yX2_startMapping cX2_startMapping 5 none, Cond.instanceMethod yX0_set, Cond.selects RX0 yX0_set yX0_set, Cond.code yX0_set cX0_set 4 none, Cond.fieldLink RX0 9 "ForkedPages$Space" "frames" "[I"]
def wsX2_attach : List Cond := .code yX2_attach cX2_attach 9 (some .int) :: ((wsX2_attach_r1 ++ wsX2_attach_r2) ++ wsX20 ++ wsX00 ++ wsX10)
def wsX2_refusalOfMapped : List Cond := .code yX2_refusalOfMapped cX2_refusalOfMapped 3 (some .int) :: ([.fieldLink RX2 11 "ForkedPages" "spaces" "[LForkedPages$Space;", .methodLink RX2 38 yX2_isRunning, .instanceMethod yX2_isRunning, .selects RX2 yX2_isRunning yX2_isRunning, .initialized RX2, .code yX2_isRunning cX2_isRunning 2 (some .boolean), .methodLink RX2 56 yX2_isPage, .static yX2_isPage, .code yX2_isPage cX2_isPage 1 (some .boolean), .instanceMethod yX0_has, .initialized RX0, .selects RX0 yX0_has yX0_has, .code yX0_has cX0_has 2 (some .boolean), .fieldLink RX0 18 "ForkedPages$Space" "mapped" "J"] ++ wsX20 ++ wsX00)
def wsX2_unmap_r1 : List Cond := [Cond.fieldLink RX2 11 "ForkedPages" "spaces" "[LForkedPages$Space;", Cond.methodLink RX2 82 yX2_refusalOfMapped, Cond.instanceMethod yX2_refusalOfMapped, Cond.selects RX2 yX2_refusalOfMapped yX2_refusalOfMapped, Cond.initialized RX2, Cond.code yX2_refusalOfMapped cX2_refusalOfMapped 3 (some .int), Cond.methodLink RX2 38 yX2_isRunning, Cond.instanceMethod yX2_isRunning, Cond.selects RX2 yX2_isRunning yX2_isRunning, Cond.code yX2_isRunning cX2_isRunning 2 (some .boolean), Cond.methodLink RX2 56 yX2_isPage, Cond.static yX2_isPage, Cond.code yX2_isPage cX2_isPage 1 (some .boolean), Cond.instanceMethod yX0_has, Cond.initialized RX0, Cond.selects RX0 yX0_has yX0_has, Cond.code yX0_has cX0_has 2 (some .boolean), Cond.fieldLink RX0 18 "ForkedPages$Space" "mapped" "J", Cond.methodLink RX2 27 yX2_freeFrames, Cond.instanceMethod yX2_freeFrames, Cond.selects RX2 yX2_freeFrames yX2_freeFrames, Cond.code yX2_freeFrames cX2_freeFrames 3 (some .int), Cond.fieldLink RX2 19 "ForkedPages" "store" "LForkedPages$Store;", Cond.instanceMethod yX1_usedFrames]
def wsX2_unmap_r2 : List Cond := [Cond.initialized RX1, Cond.selects RX1 yX1_usedFrames yX1_usedFrames, Cond.code yX1_usedFrames cX1_usedFrames 3 (some .int), Cond.fieldLink RX1 15 "ForkedPages$Store" "counts" "[I", Cond.instanceMethod yX0_tableCount, Cond.selects RX0 yX0_tableCount yX0_tableCount, Cond.code yX0_tableCount cX0_tableCount 1 (some .int), Cond.methodLink RX0 24 yX0_tablesFor, Cond.static yX0_tablesFor, Cond.code yX0_tablesFor cX0_tablesFor 2 (some .int), Cond.methodLink RX0 28 yX0_spansUsed, Cond.static yX0_spansUsed, Cond.code yX0_spansUsed cX0_spansUsed 7 (some .int), Cond.methodLink RX2 52 yX2_endMapping, Cond.instanceMethod yX2_endMapping, Cond.selects RX2 yX2_endMapping yX2_endMapping, Cond.code yX2_endMapping cX2_endMapping 3 none, Cond.instanceMethod yX0_clear, Cond.selects RX0 yX0_clear yX0_clear, Cond.code yX0_clear cX0_clear 2 none, Cond.constantLong RX0 22 (-1)]
def wsX2_unmap : List Cond := .code yX2_unmap cX2_unmap 5 (some .int) :: ((wsX2_unmap_r1 ++ wsX2_unmap_r2) ++ wsX20 ++ wsX00 ++ wsX10)
def wsX2_protect_r1 : List Cond := [Cond.fieldLink RX2 11 "ForkedPages" "spaces" "[LForkedPages$Space;", Cond.methodLink RX2 82 yX2_refusalOfMapped, Cond.instanceMethod yX2_refusalOfMapped, Cond.selects RX2 yX2_refusalOfMapped yX2_refusalOfMapped, Cond.initialized RX2, Cond.code yX2_refusalOfMapped cX2_refusalOfMapped 3 (some .int), Cond.methodLink RX2 38 yX2_isRunning, Cond.instanceMethod yX2_isRunning, Cond.selects RX2 yX2_isRunning yX2_isRunning, Cond.code yX2_isRunning cX2_isRunning 2 (some .boolean), Cond.methodLink RX2 56 yX2_isPage, Cond.static yX2_isPage, Cond.code yX2_isPage cX2_isPage 1 (some .boolean), Cond.instanceMethod yX0_has, Cond.initialized RX0, Cond.selects RX0 yX0_has yX0_has, Cond.code yX0_has cX0_has 2 (some .boolean), Cond.fieldLink RX0 18 "ForkedPages$Space" "mapped" "J", Cond.instanceMethod yX0_is, Cond.selects RX0 yX0_is yX0_is, Cond.code yX0_is cX0_is 3 (some .boolean), Cond.fieldLink RX0 15 "ForkedPages$Space" "kinds" "[I", Cond.instanceMethod yX0_turn, Cond.selects RX0 yX0_turn yX0_turn]
def wsX2_protect_r2 : List Cond := [Cond.code yX0_turn cX0_turn 3 none]
def wsX2_protect : List Cond := .code yX2_protect cX2_protect 6 (some .int) :: ((wsX2_protect_r1 ++ wsX2_protect_r2) ++ wsX20 ++ wsX00)
def wsX2_refusalOfAddress : List Cond := .code yX2_refusalOfAddress cX2_refusalOfAddress 3 (some .int) :: ([.methodLink RX2 82 yX2_refusalOfMapped, .instanceMethod yX2_refusalOfMapped, .selects RX2 yX2_refusalOfMapped yX2_refusalOfMapped, .initialized RX2, .code yX2_refusalOfMapped cX2_refusalOfMapped 3 (some .int), .fieldLink RX2 11 "ForkedPages" "spaces" "[LForkedPages$Space;", .methodLink RX2 38 yX2_isRunning, .instanceMethod yX2_isRunning, .selects RX2 yX2_isRunning yX2_isRunning, .code yX2_isRunning cX2_isRunning 2 (some .boolean), .methodLink RX2 56 yX2_isPage, .static yX2_isPage, .code yX2_isPage cX2_isPage 1 (some .boolean), .instanceMethod yX0_has, .initialized RX0, .selects RX0 yX0_has yX0_has, .code yX0_has cX0_has 2 (some .boolean), .fieldLink RX0 18 "ForkedPages$Space" "mapped" "J"] ++ wsX20 ++ wsX00)
def wsX2_resolveFault_r1 : List Cond := [Cond.fieldLink RX2 19 "ForkedPages" "store" "LForkedPages$Store;", Cond.fieldLink RX2 121 "ForkedPages" "allFaults" "I", Cond.fieldLink RX2 117 "ForkedPages" "copyFaults" "I", Cond.methodLink RX2 27 yX2_freeFrames, Cond.instanceMethod yX2_freeFrames, Cond.selects RX2 yX2_freeFrames yX2_freeFrames, Cond.initialized RX2, Cond.code yX2_freeFrames cX2_freeFrames 3 (some .int), Cond.fieldLink RX2 11 "ForkedPages" "spaces" "[LForkedPages$Space;", Cond.instanceMethod yX1_usedFrames, Cond.initialized RX1, Cond.selects RX1 yX1_usedFrames yX1_usedFrames, Cond.code yX1_usedFrames cX1_usedFrames 3 (some .int), Cond.fieldLink RX1 15 "ForkedPages$Store" "counts" "[I", Cond.instanceMethod yX0_tableCount, Cond.initialized RX0, Cond.selects RX0 yX0_tableCount yX0_tableCount, Cond.code yX0_tableCount cX0_tableCount 1 (some .int), Cond.fieldLink RX0 18 "ForkedPages$Space" "mapped" "J", Cond.methodLink RX0 24 yX0_tablesFor, Cond.static yX0_tablesFor, Cond.code yX0_tablesFor cX0_tablesFor 2 (some .int), Cond.methodLink RX0 28 yX0_spansUsed, Cond.static yX0_spansUsed]
def wsX2_resolveFault_r2 : List Cond := [Cond.code yX0_spansUsed cX0_spansUsed 7 (some .int), Cond.instanceMethod yX0_turn, Cond.selects RX0 yX0_turn yX0_turn, Cond.code yX0_turn cX0_turn 3 none, Cond.fieldLink RX0 15 "ForkedPages$Space" "kinds" "[I", Cond.instanceMethod yX1_unusedFrame, Cond.selects RX1 yX1_unusedFrame yX1_unusedFrame, Cond.code yX1_unusedFrame cX1_unusedFrame 2 (some .int), Cond.instanceMethod yX1_copy, Cond.selects RX1 yX1_copy yX1_copy, Cond.code yX1_copy cX1_copy 4 none, Cond.fieldLink RX1 9 "ForkedPages$Store" "words" "[I", Cond.methodLink RX2 52 yX2_endMapping, Cond.instanceMethod yX2_endMapping, Cond.selects RX2 yX2_endMapping yX2_endMapping, Cond.code yX2_endMapping cX2_endMapping 3 none, Cond.instanceMethod yX0_clear, Cond.selects RX0 yX0_clear yX0_clear, Cond.code yX0_clear cX0_clear 2 none, Cond.constantLong RX0 22 (-1), Cond.methodLink RX2 70 yX2_startMapping, Cond.instanceMethod yX2_startMapping, Cond.selects RX2 yX2_startMapping yX2_startMapping, Cond.code yX2_startMapping cX2_startMapping 5 none]
def wsX2_resolveFault_r3 : List Cond := [Cond.instanceMethod yX0_set, Cond.selects RX0 yX0_set yX0_set, Cond.code yX0_set cX0_set 4 none, Cond.fieldLink RX0 9 "ForkedPages$Space" "frames" "[I"]
def wsX2_resolveFault : List Cond := .code yX2_resolveFault cX2_resolveFault 7 (some .int) :: ((wsX2_resolveFault_r1 ++ (wsX2_resolveFault_r2 ++ wsX2_resolveFault_r3)) ++ wsX00 ++ wsX20 ++ wsX10)
def wsX2_write_r1 : List Cond := [Cond.fieldLink RX2 11 "ForkedPages" "spaces" "[LForkedPages$Space;", Cond.fieldLink RX2 19 "ForkedPages" "store" "LForkedPages$Store;", Cond.methodLink RX2 90 yX2_refusalOfAddress, Cond.instanceMethod yX2_refusalOfAddress, Cond.selects RX2 yX2_refusalOfAddress yX2_refusalOfAddress, Cond.initialized RX2, Cond.code yX2_refusalOfAddress cX2_refusalOfAddress 3 (some .int), Cond.methodLink RX2 82 yX2_refusalOfMapped, Cond.instanceMethod yX2_refusalOfMapped, Cond.selects RX2 yX2_refusalOfMapped yX2_refusalOfMapped, Cond.code yX2_refusalOfMapped cX2_refusalOfMapped 3 (some .int), Cond.methodLink RX2 38 yX2_isRunning, Cond.instanceMethod yX2_isRunning, Cond.selects RX2 yX2_isRunning yX2_isRunning, Cond.code yX2_isRunning cX2_isRunning 2 (some .boolean), Cond.methodLink RX2 56 yX2_isPage, Cond.static yX2_isPage, Cond.code yX2_isPage cX2_isPage 1 (some .boolean), Cond.instanceMethod yX0_has, Cond.initialized RX0, Cond.selects RX0 yX0_has yX0_has, Cond.code yX0_has cX0_has 2 (some .boolean), Cond.fieldLink RX0 18 "ForkedPages$Space" "mapped" "J", Cond.instanceMethod yX0_is]
def wsX2_write_r2 : List Cond := [Cond.selects RX0 yX0_is yX0_is, Cond.code yX0_is cX0_is 3 (some .boolean), Cond.fieldLink RX0 15 "ForkedPages$Space" "kinds" "[I", Cond.methodLink RX2 93 yX2_resolveFault, Cond.instanceMethod yX2_resolveFault, Cond.selects RX2 yX2_resolveFault yX2_resolveFault, Cond.code yX2_resolveFault cX2_resolveFault 7 (some .int), Cond.fieldLink RX2 121 "ForkedPages" "allFaults" "I", Cond.fieldLink RX2 117 "ForkedPages" "copyFaults" "I", Cond.methodLink RX2 27 yX2_freeFrames, Cond.instanceMethod yX2_freeFrames, Cond.selects RX2 yX2_freeFrames yX2_freeFrames, Cond.code yX2_freeFrames cX2_freeFrames 3 (some .int), Cond.instanceMethod yX1_usedFrames, Cond.initialized RX1, Cond.selects RX1 yX1_usedFrames yX1_usedFrames, Cond.code yX1_usedFrames cX1_usedFrames 3 (some .int), Cond.fieldLink RX1 15 "ForkedPages$Store" "counts" "[I", Cond.instanceMethod yX0_tableCount, Cond.selects RX0 yX0_tableCount yX0_tableCount, Cond.code yX0_tableCount cX0_tableCount 1 (some .int), Cond.methodLink RX0 24 yX0_tablesFor, Cond.static yX0_tablesFor, Cond.code yX0_tablesFor cX0_tablesFor 2 (some .int)]
def wsX2_write_r3 : List Cond := [Cond.methodLink RX0 28 yX0_spansUsed, Cond.static yX0_spansUsed, Cond.code yX0_spansUsed cX0_spansUsed 7 (some .int), Cond.instanceMethod yX0_turn, Cond.selects RX0 yX0_turn yX0_turn, Cond.code yX0_turn cX0_turn 3 none, Cond.instanceMethod yX1_unusedFrame, Cond.selects RX1 yX1_unusedFrame yX1_unusedFrame, Cond.code yX1_unusedFrame cX1_unusedFrame 2 (some .int), Cond.instanceMethod yX1_copy, Cond.selects RX1 yX1_copy yX1_copy, Cond.code yX1_copy cX1_copy 4 none, Cond.fieldLink RX1 9 "ForkedPages$Store" "words" "[I", Cond.methodLink RX2 52 yX2_endMapping, Cond.instanceMethod yX2_endMapping, Cond.selects RX2 yX2_endMapping yX2_endMapping, Cond.code yX2_endMapping cX2_endMapping 3 none, Cond.instanceMethod yX0_clear, Cond.selects RX0 yX0_clear yX0_clear, Cond.code yX0_clear cX0_clear 2 none, Cond.constantLong RX0 22 (-1), Cond.methodLink RX2 70 yX2_startMapping, Cond.instanceMethod yX2_startMapping, Cond.selects RX2 yX2_startMapping yX2_startMapping]
def wsX2_write_r4 : List Cond := [Cond.code yX2_startMapping cX2_startMapping 5 none, Cond.instanceMethod yX0_set, Cond.selects RX0 yX0_set yX0_set, Cond.code yX0_set cX0_set 4 none, Cond.fieldLink RX0 9 "ForkedPages$Space" "frames" "[I"]
def wsX2_write : List Cond := .code yX2_write cX2_write 8 (some .int) :: ((wsX2_write_r1 ++ (wsX2_write_r2 ++ (wsX2_write_r3 ++ wsX2_write_r4))) ++ wsX20 ++ wsX10 ++ wsX00)
def wsX2_read : List Cond := .code yX2_read cX2_read 4 (some .long) :: ([.constantLong RX2 100 (1099511627776), .fieldLink RX2 11 "ForkedPages" "spaces" "[LForkedPages$Space;", .fieldLink RX2 19 "ForkedPages" "store" "LForkedPages$Store;", .methodLink RX2 90 yX2_refusalOfAddress, .instanceMethod yX2_refusalOfAddress, .selects RX2 yX2_refusalOfAddress yX2_refusalOfAddress, .initialized RX2, .code yX2_refusalOfAddress cX2_refusalOfAddress 3 (some .int), .methodLink RX2 82 yX2_refusalOfMapped, .instanceMethod yX2_refusalOfMapped, .selects RX2 yX2_refusalOfMapped yX2_refusalOfMapped, .code yX2_refusalOfMapped cX2_refusalOfMapped 3 (some .int), .methodLink RX2 38 yX2_isRunning, .instanceMethod yX2_isRunning, .selects RX2 yX2_isRunning yX2_isRunning, .code yX2_isRunning cX2_isRunning 2 (some .boolean), .methodLink RX2 56 yX2_isPage, .static yX2_isPage, .code yX2_isPage cX2_isPage 1 (some .boolean), .instanceMethod yX0_has, .initialized RX0, .selects RX0 yX0_has yX0_has, .code yX0_has cX0_has 2 (some .boolean), .fieldLink RX0 18 "ForkedPages$Space" "mapped" "J"] ++ wsX20 ++ wsX00 ++ wsX10)
def wsX2_free : List Cond := .code yX2_free cX2_free 1 (some .int) :: ([.methodLink RX2 27 yX2_freeFrames, .instanceMethod yX2_freeFrames, .selects RX2 yX2_freeFrames yX2_freeFrames, .initialized RX2, .code yX2_freeFrames cX2_freeFrames 3 (some .int), .fieldLink RX2 19 "ForkedPages" "store" "LForkedPages$Store;", .fieldLink RX2 11 "ForkedPages" "spaces" "[LForkedPages$Space;", .instanceMethod yX1_usedFrames, .initialized RX1, .selects RX1 yX1_usedFrames yX1_usedFrames, .code yX1_usedFrames cX1_usedFrames 3 (some .int), .fieldLink RX1 15 "ForkedPages$Store" "counts" "[I", .instanceMethod yX0_tableCount, .initialized RX0, .selects RX0 yX0_tableCount yX0_tableCount, .code yX0_tableCount cX0_tableCount 1 (some .int), .fieldLink RX0 18 "ForkedPages$Space" "mapped" "J", .methodLink RX0 24 yX0_tablesFor, .static yX0_tablesFor, .code yX0_tablesFor cX0_tablesFor 2 (some .int), .methodLink RX0 28 yX0_spansUsed, .static yX0_spansUsed, .code yX0_spansUsed cX0_spansUsed 7 (some .int)] ++ wsX20 ++ wsX00 ++ wsX10)
def wsX2_tables : List Cond := .code yX2_tables cX2_tables 2 (some .int) :: ([.fieldLink RX2 11 "ForkedPages" "spaces" "[LForkedPages$Space;", .methodLink RX2 38 yX2_isRunning, .instanceMethod yX2_isRunning, .selects RX2 yX2_isRunning yX2_isRunning, .initialized RX2, .code yX2_isRunning cX2_isRunning 2 (some .boolean), .instanceMethod yX0_tableCount, .initialized RX0, .selects RX0 yX0_tableCount yX0_tableCount, .code yX0_tableCount cX0_tableCount 1 (some .int), .fieldLink RX0 18 "ForkedPages$Space" "mapped" "J", .methodLink RX0 24 yX0_tablesFor, .static yX0_tablesFor, .code yX0_tablesFor cX0_tablesFor 2 (some .int), .methodLink RX0 28 yX0_spansUsed, .static yX0_spansUsed, .code yX0_spansUsed cX0_spansUsed 7 (some .int)] ++ wsX20 ++ wsX00)
def wsJ13_bitCount_95d88 : List Cond := .code yJ13_bitCount_95d88 cJ13_bitCount_95d88 2 (some .int) :: ([.constantLong RJ13 314 (6148914691236517205), .constantLong RJ13 316 (3689348814741910323), .constantLong RJ13 318 (1085102592571150095)])
def wsX2_pages : List Cond := .code yX2_pages cX2_pages 2 (some .int) :: ([.fieldLink RX2 11 "ForkedPages" "spaces" "[LForkedPages$Space;", .methodLink RX2 38 yX2_isRunning, .instanceMethod yX2_isRunning, .selects RX2 yX2_isRunning yX2_isRunning, .initialized RX2, .code yX2_isRunning cX2_isRunning 2 (some .boolean), .methodLink RX2 106 yJ13_bitCount_95d88, .static yJ13_bitCount_95d88, .initialized RJ13, .code yJ13_bitCount_95d88 cJ13_bitCount_95d88 2 (some .int), .constantLong RJ13 314 (6148914691236517205), .constantLong RJ13 316 (3689348814741910323), .constantLong RJ13 318 (1085102592571150095)] ++ wsX20 ++ wsX00)
def wsX2_count : List Cond := .code yX2_count cX2_count 4 (some .int) :: ([.fieldLink RX2 19 "ForkedPages" "store" "LForkedPages$Store;", .fieldLink RX2 11 "ForkedPages" "spaces" "[LForkedPages$Space;", .methodLink RX2 82 yX2_refusalOfMapped, .instanceMethod yX2_refusalOfMapped, .selects RX2 yX2_refusalOfMapped yX2_refusalOfMapped, .initialized RX2, .code yX2_refusalOfMapped cX2_refusalOfMapped 3 (some .int), .methodLink RX2 38 yX2_isRunning, .instanceMethod yX2_isRunning, .selects RX2 yX2_isRunning yX2_isRunning, .code yX2_isRunning cX2_isRunning 2 (some .boolean), .methodLink RX2 56 yX2_isPage, .static yX2_isPage, .code yX2_isPage cX2_isPage 1 (some .boolean), .instanceMethod yX0_has, .initialized RX0, .selects RX0 yX0_has yX0_has, .code yX0_has cX0_has 2 (some .boolean), .fieldLink RX0 18 "ForkedPages$Space" "mapped" "J"] ++ wsX20 ++ wsX10 ++ wsX00)
def wsX2_mapping : List Cond := .code yX2_mapping cX2_mapping 4 (some .int) :: ([.fieldLink RX2 11 "ForkedPages" "spaces" "[LForkedPages$Space;", .methodLink RX2 82 yX2_refusalOfMapped, .instanceMethod yX2_refusalOfMapped, .selects RX2 yX2_refusalOfMapped yX2_refusalOfMapped, .initialized RX2, .code yX2_refusalOfMapped cX2_refusalOfMapped 3 (some .int), .methodLink RX2 38 yX2_isRunning, .instanceMethod yX2_isRunning, .selects RX2 yX2_isRunning yX2_isRunning, .code yX2_isRunning cX2_isRunning 2 (some .boolean), .methodLink RX2 56 yX2_isPage, .static yX2_isPage, .code yX2_isPage cX2_isPage 1 (some .boolean), .instanceMethod yX0_has, .initialized RX0, .selects RX0 yX0_has yX0_has, .code yX0_has cX0_has 2 (some .boolean), .fieldLink RX0 18 "ForkedPages$Space" "mapped" "J"] ++ wsX20 ++ wsX00)
def wsX2_twin : List Cond := .code yX2_twin cX2_twin 9 (some .int) :: ([.fieldLink RX2 11 "ForkedPages" "spaces" "[LForkedPages$Space;", .methodLink RX2 38 yX2_isRunning, .instanceMethod yX2_isRunning, .selects RX2 yX2_isRunning yX2_isRunning, .initialized RX2, .code yX2_isRunning cX2_isRunning 2 (some .boolean), .methodLink RX2 82 yX2_refusalOfMapped, .instanceMethod yX2_refusalOfMapped, .selects RX2 yX2_refusalOfMapped yX2_refusalOfMapped, .code yX2_refusalOfMapped cX2_refusalOfMapped 3 (some .int), .methodLink RX2 56 yX2_isPage, .static yX2_isPage, .code yX2_isPage cX2_isPage 1 (some .boolean), .instanceMethod yX0_has, .initialized RX0, .selects RX0 yX0_has yX0_has, .code yX0_has cX0_has 2 (some .boolean), .fieldLink RX0 18 "ForkedPages$Space" "mapped" "J"] ++ wsX20 ++ wsX00)
def wsX2_running : List Cond := .code yX2_running cX2_running 3 (some .int) :: ([.fieldLink RX2 11 "ForkedPages" "spaces" "[LForkedPages$Space;"] ++ wsX20 ++ wsX00)
def wsX2_faults : List Cond := .code yX2_faults cX2_faults 2 (some .int) :: ([.fieldLink RX2 117 "ForkedPages" "copyFaults" "I", .fieldLink RX2 121 "ForkedPages" "allFaults" "I"] ++ wsX20)
def wsX3_init : List Cond := .code yX3_init cX3_init 1 none :: ([.methodLink RX3 1 objectInit, .instanceMethod objectInit, .code objectInit ⟨#[0xb1]⟩ 1 none, .fieldLink RX3 7 "ForkedPagesModel" "runs" "[Z", .arrayClass .int, .fieldLink RX3 13 "ForkedPagesModel" "frame" "[I"])
def wsL_law_r1 : List Cond := [Cond.classLink RL 7 RX2, Cond.instantiable RX2 4, Cond.initialized RX2, Cond.classLink RL 10 RX3, Cond.instantiable RX3 0, Cond.initialized RX3, Cond.methodLink RL 9 yX2_init, Cond.instanceMethod yX2_init, Cond.code yX2_init cX2_init 2 none, Cond.methodLink RX2 1 objectInit, Cond.instanceMethod objectInit, Cond.code objectInit ⟨#[0xb1]⟩ 1 none, Cond.classLink RX2 9 RX0, Cond.fieldLink RX2 11 "ForkedPages" "spaces" "[LForkedPages$Space;", Cond.instantiable RX0 4, Cond.initialized RX0, Cond.classLink RX2 16 RX1, Cond.instantiable RX1 2, Cond.initialized RX1, Cond.fieldLink RX2 19 "ForkedPages" "store" "LForkedPages$Store;", Cond.instanceMethod yX0_init, Cond.code yX0_init cX0_init 1 none, Cond.methodLink RX0 3 objectInit, Cond.arrayClass .int]
def wsL_law_r2 : List Cond := [Cond.fieldLink RX0 9 "ForkedPages$Space" "frames" "[I", Cond.fieldLink RX0 15 "ForkedPages$Space" "kinds" "[I", Cond.instanceMethod yX1_init, Cond.code yX1_init cX1_init 1 none, Cond.methodLink RX1 3 objectInit, Cond.fieldLink RX1 9 "ForkedPages$Store" "words" "[I", Cond.fieldLink RX1 15 "ForkedPages$Store" "counts" "[I", Cond.methodLink RL 12 yX3_init, Cond.instanceMethod yX3_init, Cond.code yX3_init cX3_init 1 none, Cond.methodLink RX3 1 objectInit, Cond.fieldLink RX3 7 "ForkedPagesModel" "runs" "[Z", Cond.fieldLink RX3 13 "ForkedPagesModel" "frame" "[I", Cond.methodLink RL 13 yX2_spawn, Cond.instanceMethod yX2_spawn, Cond.selects RX2 yX2_spawn yX2_spawn, Cond.code yX2_spawn cX2_spawn 2 (some .int), Cond.methodLink RX2 23 yX2_leastIdle, Cond.instanceMethod yX2_leastIdle, Cond.selects RX2 yX2_leastIdle yX2_leastIdle, Cond.code yX2_leastIdle cX2_leastIdle 2 (some .int), Cond.methodLink RX2 27 yX2_freeFrames, Cond.instanceMethod yX2_freeFrames, Cond.selects RX2 yX2_freeFrames yX2_freeFrames]
def wsL_law_r3 : List Cond := [Cond.code yX2_freeFrames cX2_freeFrames 3 (some .int), Cond.instanceMethod yX1_usedFrames, Cond.selects RX1 yX1_usedFrames yX1_usedFrames, Cond.code yX1_usedFrames cX1_usedFrames 3 (some .int), Cond.instanceMethod yX0_tableCount, Cond.selects RX0 yX0_tableCount yX0_tableCount, Cond.code yX0_tableCount cX0_tableCount 1 (some .int), Cond.fieldLink RX0 18 "ForkedPages$Space" "mapped" "J", Cond.methodLink RX0 24 yX0_tablesFor, Cond.static yX0_tablesFor, Cond.code yX0_tablesFor cX0_tablesFor 2 (some .int), Cond.methodLink RX0 28 yX0_spansUsed, Cond.static yX0_spansUsed, Cond.code yX0_spansUsed cX0_spansUsed 7 (some .int), Cond.methodLink RL 18 yX2_fork, Cond.instanceMethod yX2_fork, Cond.selects RX2 yX2_fork yX2_fork, Cond.code yX2_fork cX2_fork 6 (some .int), Cond.methodLink RX2 38 yX2_isRunning, Cond.instanceMethod yX2_isRunning, Cond.selects RX2 yX2_isRunning yX2_isRunning, Cond.code yX2_isRunning cX2_isRunning 2 (some .boolean), Cond.instanceMethod yX0_has, Cond.selects RX0 yX0_has yX0_has]
def wsL_law_r4 : List Cond := [Cond.code yX0_has cX0_has 2 (some .boolean), Cond.methodLink RX2 48 yX2_sharePage, Cond.instanceMethod yX2_sharePage, Cond.selects RX2 yX2_sharePage yX2_sharePage, Cond.code yX2_sharePage cX2_sharePage 4 none, Cond.instanceMethod yX0_is, Cond.selects RX0 yX0_is yX0_is, Cond.code yX0_is cX0_is 3 (some .boolean), Cond.instanceMethod yX0_turn, Cond.selects RX0 yX0_turn yX0_turn, Cond.code yX0_turn cX0_turn 3 none, Cond.methodLink RX2 70 yX2_startMapping, Cond.instanceMethod yX2_startMapping, Cond.selects RX2 yX2_startMapping yX2_startMapping, Cond.code yX2_startMapping cX2_startMapping 5 none, Cond.instanceMethod yX0_set, Cond.selects RX0 yX0_set yX0_set, Cond.code yX0_set cX0_set 4 none, Cond.methodLink RL 23 yX2_exit, Cond.instanceMethod yX2_exit, Cond.selects RX2 yX2_exit yX2_exit, Cond.code yX2_exit cX2_exit 5 (some .int), Cond.methodLink RX2 52 yX2_endMapping, Cond.instanceMethod yX2_endMapping]
def wsL_law_r5 : List Cond := [Cond.selects RX2 yX2_endMapping yX2_endMapping, Cond.code yX2_endMapping cX2_endMapping 3 none, Cond.instanceMethod yX0_clear, Cond.selects RX0 yX0_clear yX0_clear, Cond.code yX0_clear cX0_clear 2 none, Cond.constantLong RX0 22 (-1), Cond.methodLink RL 27 yX2_map, Cond.instanceMethod yX2_map, Cond.selects RX2 yX2_map yX2_map, Cond.code yX2_map cX2_map 7 (some .int), Cond.methodLink RX2 56 yX2_isPage, Cond.static yX2_isPage, Cond.code yX2_isPage cX2_isPage 1 (some .boolean), Cond.instanceMethod yX0_tablesToAdd, Cond.selects RX0 yX0_tablesToAdd yX0_tablesToAdd, Cond.code yX0_tablesToAdd cX0_tablesToAdd 2 (some .int), Cond.instanceMethod yX1_unusedFrame, Cond.selects RX1 yX1_unusedFrame yX1_unusedFrame, Cond.code yX1_unusedFrame cX1_unusedFrame 2 (some .int), Cond.instanceMethod yX1_blank, Cond.selects RX1 yX1_blank yX1_blank, Cond.code yX1_blank cX1_blank 3 none, Cond.methodLink RL 32 yX2_attach, Cond.instanceMethod yX2_attach]
def wsL_law_r6 : List Cond := [Cond.selects RX2 yX2_attach yX2_attach, Cond.code yX2_attach cX2_attach 9 (some .int), Cond.methodLink RL 37 yX2_unmap, Cond.instanceMethod yX2_unmap, Cond.selects RX2 yX2_unmap yX2_unmap, Cond.code yX2_unmap cX2_unmap 5 (some .int), Cond.methodLink RX2 82 yX2_refusalOfMapped, Cond.instanceMethod yX2_refusalOfMapped, Cond.selects RX2 yX2_refusalOfMapped yX2_refusalOfMapped, Cond.code yX2_refusalOfMapped cX2_refusalOfMapped 3 (some .int), Cond.methodLink RL 42 yX2_protect, Cond.instanceMethod yX2_protect, Cond.selects RX2 yX2_protect yX2_protect, Cond.code yX2_protect cX2_protect 6 (some .int), Cond.methodLink RL 46 yX2_write, Cond.instanceMethod yX2_write, Cond.selects RX2 yX2_write yX2_write, Cond.code yX2_write cX2_write 8 (some .int), Cond.methodLink RX2 90 yX2_refusalOfAddress, Cond.instanceMethod yX2_refusalOfAddress, Cond.selects RX2 yX2_refusalOfAddress yX2_refusalOfAddress, Cond.code yX2_refusalOfAddress cX2_refusalOfAddress 3 (some .int), Cond.methodLink RX2 93 yX2_resolveFault, Cond.instanceMethod yX2_resolveFault]
def wsL_law_r7 : List Cond := [Cond.selects RX2 yX2_resolveFault yX2_resolveFault, Cond.code yX2_resolveFault cX2_resolveFault 7 (some .int), Cond.fieldLink RX2 121 "ForkedPages" "allFaults" "I", Cond.fieldLink RX2 117 "ForkedPages" "copyFaults" "I", Cond.instanceMethod yX1_copy, Cond.selects RX1 yX1_copy yX1_copy, Cond.code yX1_copy cX1_copy 4 none, Cond.methodLink RL 51 yX2_read, Cond.instanceMethod yX2_read, Cond.selects RX2 yX2_read yX2_read, Cond.code yX2_read cX2_read 4 (some .long), Cond.constantLong RX2 100 (1099511627776), Cond.methodLink RL 56 yX2_free, Cond.instanceMethod yX2_free, Cond.selects RX2 yX2_free yX2_free, Cond.code yX2_free cX2_free 1 (some .int), Cond.methodLink RL 60 yX2_tables, Cond.instanceMethod yX2_tables, Cond.selects RX2 yX2_tables yX2_tables, Cond.code yX2_tables cX2_tables 2 (some .int), Cond.methodLink RL 64 yX2_pages, Cond.instanceMethod yX2_pages, Cond.selects RX2 yX2_pages yX2_pages, Cond.code yX2_pages cX2_pages 2 (some .int)]
def wsL_law_r8 : List Cond := [Cond.methodLink RX2 106 yJ13_bitCount_95d88, Cond.static yJ13_bitCount_95d88, Cond.initialized RJ13, Cond.code yJ13_bitCount_95d88 cJ13_bitCount_95d88 2 (some .int), Cond.constantLong RJ13 314 (6148914691236517205), Cond.constantLong RJ13 316 (3689348814741910323), Cond.constantLong RJ13 318 (1085102592571150095), Cond.methodLink RL 68 yX2_count, Cond.instanceMethod yX2_count, Cond.selects RX2 yX2_count yX2_count, Cond.code yX2_count cX2_count 4 (some .int), Cond.methodLink RL 72 yX2_mapping, Cond.instanceMethod yX2_mapping, Cond.selects RX2 yX2_mapping yX2_mapping, Cond.code yX2_mapping cX2_mapping 4 (some .int), Cond.methodLink RL 76 yX2_twin, Cond.instanceMethod yX2_twin, Cond.selects RX2 yX2_twin yX2_twin, Cond.code yX2_twin cX2_twin 9 (some .int), Cond.methodLink RL 80 yX2_running, Cond.instanceMethod yX2_running, Cond.selects RX2 yX2_running yX2_running, Cond.code yX2_running cX2_running 3 (some .int), Cond.methodLink RL 84 yX2_faults]
def wsL_law_r9 : List Cond := [Cond.instanceMethod yX2_faults, Cond.selects RX2 yX2_faults yX2_faults, Cond.code yX2_faults cX2_faults 2 (some .int)]
def wsL_law : List Cond := (wsL_law_r1 ++ (wsL_law_r2 ++ (wsL_law_r3 ++ (wsL_law_r4 ++ (wsL_law_r5 ++ (wsL_law_r6 ++ (wsL_law_r7 ++ (wsL_law_r8 ++ wsL_law_r9)))))))) ++ wsX20 ++ wsX30 ++ wsX00 ++ wsX10 ++ ([] : List Cond)
set_option maxRecDepth 20000 in
theorem wsL_law_in : ∀ w ∈ wsL_law, w ∈ lw_tbl := fun w h => (goodIn_p wsL_law [30, 33, 39, 62, 256, 89, 93, 97, 101, 105, 108, 111, 116, 120, 124, 128, 132, 136, 140, 144, 148, 152, 156, 161, 164, 168, 172, 176, 180, 184, 188, 192, 196, 200, 204, 208, 212, 217, 221, 225, 228, 235, 239, 243, 247, 251] (by decide +kernel) (by decide +kernel) w h).1
theorem inlX0 : ∀ w ∈ wsX00, w ∈ wsL_law := fun _ h => List.mem_append_left _ (List.mem_append_left _ (List.mem_append_right _ h))
theorem inX0 : ∀ w ∈ wsX00, w ∈ lw_tbl := fun w h => wsL_law_in w (inlX0 w h)
theorem inlX1 : ∀ w ∈ wsX10, w ∈ wsL_law := fun _ h => List.mem_append_left _ (List.mem_append_right _ h)
theorem inX1 : ∀ w ∈ wsX10, w ∈ lw_tbl := fun w h => wsL_law_in w (inlX1 w h)
theorem inlX2 : ∀ w ∈ wsX20, w ∈ wsL_law := fun _ h => List.mem_append_left _ (List.mem_append_left _ (List.mem_append_left _ (List.mem_append_left _ (List.mem_append_right _ h))))
theorem inX2 : ∀ w ∈ wsX20, w ∈ lw_tbl := fun w h => wsL_law_in w (inlX2 w h)
theorem inlX3 : ∀ w ∈ wsX30, w ∈ wsL_law := fun _ h => List.mem_append_left _ (List.mem_append_left _ (List.mem_append_left _ (List.mem_append_right _ h)))
theorem inX3 : ∀ w ∈ wsX30, w ∈ lw_tbl := fun w h => wsL_law_in w (inlX3 w h)
theorem inJ13 : ∀ w ∈ wsJ130, w ∈ lw_tbl := by decide +kernel
theorem dX0_init_0 : decode cX0_init 0 = .ok (.aload_n 0, 1) := by decide +kernel
theorem dX0_init_1 : decode cX0_init 1 = .ok (.invokespecial 3, 3) := by decide +kernel
theorem dX0_init_4 : decode cX0_init 4 = .ok (.aload_n 0, 1) := by decide +kernel
theorem dX0_init_5 : decode cX0_init 5 = .ok (.bipush 64, 2) := by decide +kernel
theorem dX0_init_7 : decode cX0_init 7 = .ok (.newarray .int, 2) := by decide +kernel
theorem dX0_init_9 : decode cX0_init 9 = .ok (.putfield 9, 3) := by decide +kernel
theorem dX0_init_12 : decode cX0_init 12 = .ok (.aload_n 0, 1) := by decide +kernel
theorem dX0_init_13 : decode cX0_init 13 = .ok (.bipush 64, 2) := by decide +kernel
theorem dX0_init_15 : decode cX0_init 15 = .ok (.newarray .int, 2) := by decide +kernel
theorem dX0_init_17 : decode cX0_init 17 = .ok (.putfield 15, 3) := by decide +kernel
theorem dX0_init_20 : decode cX0_init 20 = .ok (.return_, 1) := by decide +kernel
theorem dX0_has_0 : decode cX0_has 0 = .ok (.aload_n 0, 1) := by decide +kernel
theorem dX0_has_1 : decode cX0_has 1 = .ok (.getfield 18, 3) := by decide +kernel
theorem dX0_has_4 : decode cX0_has 4 = .ok (.iload_n 1, 1) := by decide +kernel
theorem dX0_has_5 : decode cX0_has 5 = .ok (.lushr, 1) := by decide +kernel
theorem dX0_has_6 : decode cX0_has 6 = .ok (.lconst 1, 1) := by decide +kernel
theorem dX0_has_7 : decode cX0_has 7 = .ok (.land, 1) := by decide +kernel
theorem dX0_has_8 : decode cX0_has 8 = .ok (.lconst 0, 1) := by decide +kernel
theorem dX0_has_9 : decode cX0_has 9 = .ok (.lcmp, 1) := by decide +kernel
theorem dX0_has_10 : decode cX0_has 10 = .ok (.ifCond .eq 7, 3) := by decide +kernel
theorem dX0_has_13 : decode cX0_has 13 = .ok (.iconst 1, 1) := by decide +kernel
theorem dX0_has_14 : decode cX0_has 14 = .ok (.goto 4, 3) := by decide +kernel
theorem dX0_has_17 : decode cX0_has 17 = .ok (.iconst 0, 1) := by decide +kernel
theorem dX0_has_18 : decode cX0_has 18 = .ok (.ireturn, 1) := by decide +kernel
theorem dX0_is_0 : decode cX0_is 0 = .ok (.aload_n 0, 1) := by decide +kernel
theorem dX0_is_1 : decode cX0_is 1 = .ok (.getfield 15, 3) := by decide +kernel
theorem dX0_is_4 : decode cX0_is 4 = .ok (.iload_n 2, 1) := by decide +kernel
theorem dX0_is_5 : decode cX0_is 5 = .ok (.iaload, 1) := by decide +kernel
theorem dX0_is_6 : decode cX0_is 6 = .ok (.iload_n 1, 1) := by decide +kernel
theorem dX0_is_7 : decode cX0_is 7 = .ok (.iand, 1) := by decide +kernel
theorem dX0_is_8 : decode cX0_is 8 = .ok (.ifCond .eq 7, 3) := by decide +kernel
theorem dX0_is_11 : decode cX0_is 11 = .ok (.iconst 1, 1) := by decide +kernel
theorem dX0_is_12 : decode cX0_is 12 = .ok (.goto 4, 3) := by decide +kernel
theorem dX0_is_15 : decode cX0_is 15 = .ok (.iconst 0, 1) := by decide +kernel
theorem dX0_is_16 : decode cX0_is 16 = .ok (.ireturn, 1) := by decide +kernel
theorem dX0_turn_0 : decode cX0_turn 0 = .ok (.aload_n 0, 1) := by decide +kernel
theorem dX0_turn_1 : decode cX0_turn 1 = .ok (.getfield 15, 3) := by decide +kernel
theorem dX0_turn_4 : decode cX0_turn 4 = .ok (.iload_n 2, 1) := by decide +kernel
theorem dX0_turn_5 : decode cX0_turn 5 = .ok (.dup2, 1) := by decide +kernel
theorem dX0_turn_6 : decode cX0_turn 6 = .ok (.iaload, 1) := by decide +kernel
theorem dX0_turn_7 : decode cX0_turn 7 = .ok (.iload_n 1, 1) := by decide +kernel
theorem dX0_turn_8 : decode cX0_turn 8 = .ok (.ixor, 1) := by decide +kernel
theorem dX0_turn_9 : decode cX0_turn 9 = .ok (.iastore, 1) := by decide +kernel
theorem dX0_turn_10 : decode cX0_turn 10 = .ok (.return_, 1) := by decide +kernel
theorem dX0_set_0 : decode cX0_set 0 = .ok (.aload_n 0, 1) := by decide +kernel
theorem dX0_set_1 : decode cX0_set 1 = .ok (.dup, 1) := by decide +kernel
theorem dX0_set_2 : decode cX0_set 2 = .ok (.getfield 18, 3) := by decide +kernel
theorem dX0_set_5 : decode cX0_set 5 = .ok (.lconst 1, 1) := by decide +kernel
theorem dX0_set_6 : decode cX0_set 6 = .ok (.iload_n 1, 1) := by decide +kernel
theorem dX0_set_7 : decode cX0_set 7 = .ok (.lshl, 1) := by decide +kernel
theorem dX0_set_8 : decode cX0_set 8 = .ok (.lor, 1) := by decide +kernel
theorem dX0_set_9 : decode cX0_set 9 = .ok (.putfield 18, 3) := by decide +kernel
theorem dX0_set_12 : decode cX0_set 12 = .ok (.aload_n 0, 1) := by decide +kernel
theorem dX0_set_13 : decode cX0_set 13 = .ok (.getfield 9, 3) := by decide +kernel
theorem dX0_set_16 : decode cX0_set 16 = .ok (.iload_n 1, 1) := by decide +kernel
theorem dX0_set_17 : decode cX0_set 17 = .ok (.iload_n 2, 1) := by decide +kernel
theorem dX0_set_18 : decode cX0_set 18 = .ok (.iastore, 1) := by decide +kernel
theorem dX0_set_19 : decode cX0_set 19 = .ok (.aload_n 0, 1) := by decide +kernel
theorem dX0_set_20 : decode cX0_set 20 = .ok (.getfield 15, 3) := by decide +kernel
theorem dX0_set_23 : decode cX0_set 23 = .ok (.iload_n 1, 1) := by decide +kernel
theorem dX0_set_24 : decode cX0_set 24 = .ok (.iload_n 3, 1) := by decide +kernel
theorem dX0_set_25 : decode cX0_set 25 = .ok (.iastore, 1) := by decide +kernel
theorem dX0_set_26 : decode cX0_set 26 = .ok (.return_, 1) := by decide +kernel
theorem dX0_clear_0 : decode cX0_clear 0 = .ok (.aload_n 0, 1) := by decide +kernel
theorem dX0_clear_1 : decode cX0_clear 1 = .ok (.dup, 1) := by decide +kernel
theorem dX0_clear_2 : decode cX0_clear 2 = .ok (.getfield 18, 3) := by decide +kernel
theorem dX0_clear_5 : decode cX0_clear 5 = .ok (.lconst 1, 1) := by decide +kernel
theorem dX0_clear_6 : decode cX0_clear 6 = .ok (.iload_n 1, 1) := by decide +kernel
theorem dX0_clear_7 : decode cX0_clear 7 = .ok (.lshl, 1) := by decide +kernel
theorem dX0_clear_8 : decode cX0_clear 8 = .ok (.ldc2_w 22, 3) := by decide +kernel
theorem dX0_clear_11 : decode cX0_clear 11 = .ok (.lxor, 1) := by decide +kernel
theorem dX0_clear_12 : decode cX0_clear 12 = .ok (.land, 1) := by decide +kernel
theorem dX0_clear_13 : decode cX0_clear 13 = .ok (.putfield 18, 3) := by decide +kernel
theorem dX0_clear_16 : decode cX0_clear 16 = .ok (.return_, 1) := by decide +kernel
set_option maxRecDepth 20000 in
theorem ggX0_tableCount_X0_tablesFor : GoodIn wsX0_tableCount wsX0_tablesFor := goodIn_r _ [5, 6, 7, 4, 8] (by decide +kernel) (by decide +kernel)
set_option maxRecDepth 20000 in
theorem gX0_tableCount_X0_tablesFor : GoodIn wsX0_tableCount (va_wsS RX0 24 yX0_tablesFor wsX0_tablesFor) := goodIn_app (goodIn_of _ (by decide +kernel)) ggX0_tableCount_X0_tablesFor
theorem dX0_tableCount_0 : decode cX0_tableCount 0 = .ok (.aload_n 0, 1) := by decide +kernel
theorem dX0_tableCount_1 : decode cX0_tableCount 1 = .ok (.getfield 18, 3) := by decide +kernel
theorem dX0_tableCount_4 : decode cX0_tableCount 4 = .ok (.invokestatic 24, 3) := by decide +kernel
theorem dX0_tableCount_7 : decode cX0_tableCount 7 = .ok (.ireturn, 1) := by decide +kernel
set_option maxRecDepth 20000 in
theorem ggX0_tablesToAdd_X0_tablesFor : GoodIn wsX0_tablesToAdd wsX0_tablesFor := goodIn_r _ [5, 6, 7, 4, 8] (by decide +kernel) (by decide +kernel)
set_option maxRecDepth 20000 in
theorem gX0_tablesToAdd_X0_tablesFor : GoodIn wsX0_tablesToAdd (va_wsS RX0 24 yX0_tablesFor wsX0_tablesFor) := goodIn_app (goodIn_of _ (by decide +kernel)) ggX0_tablesToAdd_X0_tablesFor
theorem dX0_tablesToAdd_0 : decode cX0_tablesToAdd 0 = .ok (.aload_n 0, 1) := by decide +kernel
theorem dX0_tablesToAdd_1 : decode cX0_tablesToAdd 1 = .ok (.getfield 18, 3) := by decide +kernel
theorem dX0_tablesToAdd_4 : decode cX0_tablesToAdd 4 = .ok (.lconst 1, 1) := by decide +kernel
theorem dX0_tablesToAdd_5 : decode cX0_tablesToAdd 5 = .ok (.iload_n 1, 1) := by decide +kernel
theorem dX0_tablesToAdd_6 : decode cX0_tablesToAdd 6 = .ok (.lshl, 1) := by decide +kernel
theorem dX0_tablesToAdd_7 : decode cX0_tablesToAdd 7 = .ok (.lor, 1) := by decide +kernel
theorem dX0_tablesToAdd_8 : decode cX0_tablesToAdd 8 = .ok (.invokestatic 24, 3) := by decide +kernel
theorem dX0_tablesToAdd_11 : decode cX0_tablesToAdd 11 = .ok (.aload_n 0, 1) := by decide +kernel
theorem dX0_tablesToAdd_12 : decode cX0_tablesToAdd 12 = .ok (.getfield 18, 3) := by decide +kernel
theorem dX0_tablesToAdd_15 : decode cX0_tablesToAdd 15 = .ok (.invokestatic 24, 3) := by decide +kernel
theorem dX0_tablesToAdd_18 : decode cX0_tablesToAdd 18 = .ok (.isub, 1) := by decide +kernel
theorem dX0_tablesToAdd_19 : decode cX0_tablesToAdd 19 = .ok (.ireturn, 1) := by decide +kernel
set_option maxRecDepth 20000 in
theorem ggX0_tablesFor_X0_spansUsed : GoodIn wsX0_tablesFor wsX0_spansUsed := goodIn_r _ [4] (by decide +kernel) (by decide +kernel)
set_option maxRecDepth 20000 in
theorem gX0_tablesFor_X0_spansUsed : GoodIn wsX0_tablesFor (va_wsS RX0 28 yX0_spansUsed wsX0_spansUsed) := goodIn_app (goodIn_of _ (by decide +kernel)) ggX0_tablesFor_X0_spansUsed
theorem dX0_tablesFor_0 : decode cX0_tablesFor 0 = .ok (.iconst 1, 1) := by decide +kernel
theorem dX0_tablesFor_1 : decode cX0_tablesFor 1 = .ok (.lload_n 0, 1) := by decide +kernel
theorem dX0_tablesFor_2 : decode cX0_tablesFor 2 = .ok (.bipush 16, 2) := by decide +kernel
theorem dX0_tablesFor_4 : decode cX0_tablesFor 4 = .ok (.invokestatic 28, 3) := by decide +kernel
theorem dX0_tablesFor_7 : decode cX0_tablesFor 7 = .ok (.iadd, 1) := by decide +kernel
theorem dX0_tablesFor_8 : decode cX0_tablesFor 8 = .ok (.lload_n 0, 1) := by decide +kernel
theorem dX0_tablesFor_9 : decode cX0_tablesFor 9 = .ok (.iconst 4, 1) := by decide +kernel
theorem dX0_tablesFor_10 : decode cX0_tablesFor 10 = .ok (.invokestatic 28, 3) := by decide +kernel
theorem dX0_tablesFor_13 : decode cX0_tablesFor 13 = .ok (.iadd, 1) := by decide +kernel
theorem dX0_tablesFor_14 : decode cX0_tablesFor 14 = .ok (.ireturn, 1) := by decide +kernel
theorem dX0_spansUsed_0 : decode cX0_spansUsed 0 = .ok (.lconst 1, 1) := by decide +kernel
theorem dX0_spansUsed_1 : decode cX0_spansUsed 1 = .ok (.iload_n 2, 1) := by decide +kernel
theorem dX0_spansUsed_2 : decode cX0_spansUsed 2 = .ok (.lshl, 1) := by decide +kernel
theorem dX0_spansUsed_3 : decode cX0_spansUsed 3 = .ok (.lconst 1, 1) := by decide +kernel
theorem dX0_spansUsed_4 : decode cX0_spansUsed 4 = .ok (.lsub, 1) := by decide +kernel
theorem dX0_spansUsed_5 : decode cX0_spansUsed 5 = .ok (.lstore_n 3, 1) := by decide +kernel
theorem dX0_spansUsed_6 : decode cX0_spansUsed 6 = .ok (.iconst 0, 1) := by decide +kernel
theorem dX0_spansUsed_7 : decode cX0_spansUsed 7 = .ok (.istore 5, 2) := by decide +kernel
theorem dX0_spansUsed_9 : decode cX0_spansUsed 9 = .ok (.iconst 0, 1) := by decide +kernel
theorem dX0_spansUsed_10 : decode cX0_spansUsed 10 = .ok (.istore 6, 2) := by decide +kernel
theorem dX0_spansUsed_12 : decode cX0_spansUsed 12 = .ok (.iload 6, 2) := by decide +kernel
theorem dX0_spansUsed_14 : decode cX0_spansUsed 14 = .ok (.bipush 64, 2) := by decide +kernel
theorem dX0_spansUsed_16 : decode cX0_spansUsed 16 = .ok (.if_icmp .ge 26, 3) := by decide +kernel
theorem dX0_spansUsed_19 : decode cX0_spansUsed 19 = .ok (.lload_n 0, 1) := by decide +kernel
theorem dX0_spansUsed_20 : decode cX0_spansUsed 20 = .ok (.iload 6, 2) := by decide +kernel
theorem dX0_spansUsed_22 : decode cX0_spansUsed 22 = .ok (.lushr, 1) := by decide +kernel
theorem dX0_spansUsed_23 : decode cX0_spansUsed 23 = .ok (.lload_n 3, 1) := by decide +kernel
theorem dX0_spansUsed_24 : decode cX0_spansUsed 24 = .ok (.land, 1) := by decide +kernel
theorem dX0_spansUsed_25 : decode cX0_spansUsed 25 = .ok (.lconst 0, 1) := by decide +kernel
theorem dX0_spansUsed_26 : decode cX0_spansUsed 26 = .ok (.lcmp, 1) := by decide +kernel
theorem dX0_spansUsed_27 : decode cX0_spansUsed 27 = .ok (.ifCond .eq 6, 3) := by decide +kernel
theorem dX0_spansUsed_30 : decode cX0_spansUsed 30 = .ok (.iinc 5 1, 3) := by decide +kernel
theorem dX0_spansUsed_33 : decode cX0_spansUsed 33 = .ok (.iload 6, 2) := by decide +kernel
theorem dX0_spansUsed_35 : decode cX0_spansUsed 35 = .ok (.iload_n 2, 1) := by decide +kernel
theorem dX0_spansUsed_36 : decode cX0_spansUsed 36 = .ok (.iadd, 1) := by decide +kernel
theorem dX0_spansUsed_37 : decode cX0_spansUsed 37 = .ok (.istore 6, 2) := by decide +kernel
theorem dX0_spansUsed_39 : decode cX0_spansUsed 39 = .ok (.goto (-27), 3) := by decide +kernel
theorem dX0_spansUsed_42 : decode cX0_spansUsed 42 = .ok (.iload 5, 2) := by decide +kernel
theorem dX0_spansUsed_44 : decode cX0_spansUsed 44 = .ok (.ireturn, 1) := by decide +kernel
theorem dX1_init_0 : decode cX1_init 0 = .ok (.aload_n 0, 1) := by decide +kernel
theorem dX1_init_1 : decode cX1_init 1 = .ok (.invokespecial 3, 3) := by decide +kernel
theorem dX1_init_4 : decode cX1_init 4 = .ok (.aload_n 0, 1) := by decide +kernel
theorem dX1_init_5 : decode cX1_init 5 = .ok (.bipush 96, 2) := by decide +kernel
theorem dX1_init_7 : decode cX1_init 7 = .ok (.newarray .int, 2) := by decide +kernel
theorem dX1_init_9 : decode cX1_init 9 = .ok (.putfield 9, 3) := by decide +kernel
theorem dX1_init_12 : decode cX1_init 12 = .ok (.aload_n 0, 1) := by decide +kernel
theorem dX1_init_13 : decode cX1_init 13 = .ok (.bipush 24, 2) := by decide +kernel
theorem dX1_init_15 : decode cX1_init 15 = .ok (.newarray .int, 2) := by decide +kernel
theorem dX1_init_17 : decode cX1_init 17 = .ok (.putfield 15, 3) := by decide +kernel
theorem dX1_init_20 : decode cX1_init 20 = .ok (.return_, 1) := by decide +kernel
theorem dX1_usedFrames_0 : decode cX1_usedFrames 0 = .ok (.iconst 0, 1) := by decide +kernel
theorem dX1_usedFrames_1 : decode cX1_usedFrames 1 = .ok (.istore_n 1, 1) := by decide +kernel
theorem dX1_usedFrames_2 : decode cX1_usedFrames 2 = .ok (.iconst 0, 1) := by decide +kernel
theorem dX1_usedFrames_3 : decode cX1_usedFrames 3 = .ok (.istore_n 2, 1) := by decide +kernel
theorem dX1_usedFrames_4 : decode cX1_usedFrames 4 = .ok (.iload_n 2, 1) := by decide +kernel
theorem dX1_usedFrames_5 : decode cX1_usedFrames 5 = .ok (.bipush 24, 2) := by decide +kernel
theorem dX1_usedFrames_7 : decode cX1_usedFrames 7 = .ok (.if_icmp .ge 21, 3) := by decide +kernel
theorem dX1_usedFrames_10 : decode cX1_usedFrames 10 = .ok (.aload_n 0, 1) := by decide +kernel
theorem dX1_usedFrames_11 : decode cX1_usedFrames 11 = .ok (.getfield 15, 3) := by decide +kernel
theorem dX1_usedFrames_14 : decode cX1_usedFrames 14 = .ok (.iload_n 2, 1) := by decide +kernel
theorem dX1_usedFrames_15 : decode cX1_usedFrames 15 = .ok (.iaload, 1) := by decide +kernel
theorem dX1_usedFrames_16 : decode cX1_usedFrames 16 = .ok (.ifCond .le 6, 3) := by decide +kernel
theorem dX1_usedFrames_19 : decode cX1_usedFrames 19 = .ok (.iinc 1 1, 3) := by decide +kernel
theorem dX1_usedFrames_22 : decode cX1_usedFrames 22 = .ok (.iinc 2 1, 3) := by decide +kernel
theorem dX1_usedFrames_25 : decode cX1_usedFrames 25 = .ok (.goto (-21), 3) := by decide +kernel
theorem dX1_usedFrames_28 : decode cX1_usedFrames 28 = .ok (.iload_n 1, 1) := by decide +kernel
theorem dX1_usedFrames_29 : decode cX1_usedFrames 29 = .ok (.ireturn, 1) := by decide +kernel
theorem dX1_unusedFrame_0 : decode cX1_unusedFrame 0 = .ok (.iconst 0, 1) := by decide +kernel
theorem dX1_unusedFrame_1 : decode cX1_unusedFrame 1 = .ok (.istore_n 1, 1) := by decide +kernel
theorem dX1_unusedFrame_2 : decode cX1_unusedFrame 2 = .ok (.iload_n 1, 1) := by decide +kernel
theorem dX1_unusedFrame_3 : decode cX1_unusedFrame 3 = .ok (.bipush 23, 2) := by decide +kernel
theorem dX1_unusedFrame_5 : decode cX1_unusedFrame 5 = .ok (.if_icmp .ge 18, 3) := by decide +kernel
theorem dX1_unusedFrame_8 : decode cX1_unusedFrame 8 = .ok (.aload_n 0, 1) := by decide +kernel
theorem dX1_unusedFrame_9 : decode cX1_unusedFrame 9 = .ok (.getfield 15, 3) := by decide +kernel
theorem dX1_unusedFrame_12 : decode cX1_unusedFrame 12 = .ok (.iload_n 1, 1) := by decide +kernel
theorem dX1_unusedFrame_13 : decode cX1_unusedFrame 13 = .ok (.iaload, 1) := by decide +kernel
theorem dX1_unusedFrame_14 : decode cX1_unusedFrame 14 = .ok (.ifCond .le 9, 3) := by decide +kernel
theorem dX1_unusedFrame_17 : decode cX1_unusedFrame 17 = .ok (.iinc 1 1, 3) := by decide +kernel
theorem dX1_unusedFrame_20 : decode cX1_unusedFrame 20 = .ok (.goto (-18), 3) := by decide +kernel
theorem dX1_unusedFrame_23 : decode cX1_unusedFrame 23 = .ok (.iload_n 1, 1) := by decide +kernel
theorem dX1_unusedFrame_24 : decode cX1_unusedFrame 24 = .ok (.ireturn, 1) := by decide +kernel
theorem dX1_blank_0 : decode cX1_blank 0 = .ok (.iconst 0, 1) := by decide +kernel
theorem dX1_blank_1 : decode cX1_blank 1 = .ok (.istore_n 2, 1) := by decide +kernel
theorem dX1_blank_2 : decode cX1_blank 2 = .ok (.iload_n 2, 1) := by decide +kernel
theorem dX1_blank_3 : decode cX1_blank 3 = .ok (.iconst 4, 1) := by decide +kernel
theorem dX1_blank_4 : decode cX1_blank 4 = .ok (.if_icmp .ge 20, 3) := by decide +kernel
theorem dX1_blank_7 : decode cX1_blank 7 = .ok (.aload_n 0, 1) := by decide +kernel
theorem dX1_blank_8 : decode cX1_blank 8 = .ok (.getfield 9, 3) := by decide +kernel
theorem dX1_blank_11 : decode cX1_blank 11 = .ok (.iload_n 1, 1) := by decide +kernel
theorem dX1_blank_12 : decode cX1_blank 12 = .ok (.iconst 4, 1) := by decide +kernel
theorem dX1_blank_13 : decode cX1_blank 13 = .ok (.imul, 1) := by decide +kernel
theorem dX1_blank_14 : decode cX1_blank 14 = .ok (.iload_n 2, 1) := by decide +kernel
theorem dX1_blank_15 : decode cX1_blank 15 = .ok (.iadd, 1) := by decide +kernel
theorem dX1_blank_16 : decode cX1_blank 16 = .ok (.iconst 0, 1) := by decide +kernel
theorem dX1_blank_17 : decode cX1_blank 17 = .ok (.iastore, 1) := by decide +kernel
theorem dX1_blank_18 : decode cX1_blank 18 = .ok (.iinc 2 1, 3) := by decide +kernel
theorem dX1_blank_21 : decode cX1_blank 21 = .ok (.goto (-19), 3) := by decide +kernel
theorem dX1_blank_24 : decode cX1_blank 24 = .ok (.return_, 1) := by decide +kernel
theorem dX1_copy_0 : decode cX1_copy 0 = .ok (.iconst 0, 1) := by decide +kernel
theorem dX1_copy_1 : decode cX1_copy 1 = .ok (.istore_n 3, 1) := by decide +kernel
theorem dX1_copy_2 : decode cX1_copy 2 = .ok (.iload_n 3, 1) := by decide +kernel
theorem dX1_copy_3 : decode cX1_copy 3 = .ok (.iconst 4, 1) := by decide +kernel
theorem dX1_copy_4 : decode cX1_copy 4 = .ok (.if_icmp .ge 29, 3) := by decide +kernel
theorem dX1_copy_7 : decode cX1_copy 7 = .ok (.aload_n 0, 1) := by decide +kernel
theorem dX1_copy_8 : decode cX1_copy 8 = .ok (.getfield 9, 3) := by decide +kernel
theorem dX1_copy_11 : decode cX1_copy 11 = .ok (.iload_n 2, 1) := by decide +kernel
theorem dX1_copy_12 : decode cX1_copy 12 = .ok (.iconst 4, 1) := by decide +kernel
theorem dX1_copy_13 : decode cX1_copy 13 = .ok (.imul, 1) := by decide +kernel
theorem dX1_copy_14 : decode cX1_copy 14 = .ok (.iload_n 3, 1) := by decide +kernel
theorem dX1_copy_15 : decode cX1_copy 15 = .ok (.iadd, 1) := by decide +kernel
theorem dX1_copy_16 : decode cX1_copy 16 = .ok (.aload_n 0, 1) := by decide +kernel
theorem dX1_copy_17 : decode cX1_copy 17 = .ok (.getfield 9, 3) := by decide +kernel
theorem dX1_copy_20 : decode cX1_copy 20 = .ok (.iload_n 1, 1) := by decide +kernel
theorem dX1_copy_21 : decode cX1_copy 21 = .ok (.iconst 4, 1) := by decide +kernel
theorem dX1_copy_22 : decode cX1_copy 22 = .ok (.imul, 1) := by decide +kernel
theorem dX1_copy_23 : decode cX1_copy 23 = .ok (.iload_n 3, 1) := by decide +kernel
theorem dX1_copy_24 : decode cX1_copy 24 = .ok (.iadd, 1) := by decide +kernel
theorem dX1_copy_25 : decode cX1_copy 25 = .ok (.iaload, 1) := by decide +kernel
theorem dX1_copy_26 : decode cX1_copy 26 = .ok (.iastore, 1) := by decide +kernel
theorem dX1_copy_27 : decode cX1_copy 27 = .ok (.iinc 3 1, 3) := by decide +kernel
theorem dX1_copy_30 : decode cX1_copy 30 = .ok (.goto (-28), 3) := by decide +kernel
theorem dX1_copy_33 : decode cX1_copy 33 = .ok (.return_, 1) := by decide +kernel
set_option maxRecDepth 20000 in
theorem ggX2_init_X0_init : GoodIn wsX2_init wsX0_init := goodIn_r _ [13, 14, 2, 3, 15, 16, 17, 27, 28, 29, 30] (by decide +kernel) (by decide +kernel)
set_option maxRecDepth 20000 in
theorem gX2_init_X0_init_n15 : GoodIn wsX2_init (wsX0_init) := ggX2_init_X0_init
set_option maxRecDepth 20000 in
theorem ggX2_init_X1_init : GoodIn wsX2_init wsX1_init := goodIn_r _ [19, 20, 2, 3, 15, 21, 22, 31, 32] (by decide +kernel) (by decide +kernel)
set_option maxRecDepth 20000 in
theorem gX2_init_X1_init_n18 : GoodIn wsX2_init (wsX1_init) := ggX2_init_X1_init
theorem dX2_init_0 : decode cX2_init 0 = .ok (.aload_n 0, 1) := by decide +kernel
theorem dX2_init_1 : decode cX2_init 1 = .ok (.invokespecial 1, 3) := by decide +kernel
theorem dX2_init_4 : decode cX2_init 4 = .ok (.aload_n 0, 1) := by decide +kernel
theorem dX2_init_5 : decode cX2_init 5 = .ok (.iconst 5, 1) := by decide +kernel
theorem dX2_init_6 : decode cX2_init 6 = .ok (.anewarray 9, 3) := by decide +kernel
theorem dX2_init_9 : decode cX2_init 9 = .ok (.putfield 11, 3) := by decide +kernel
theorem dX2_init_12 : decode cX2_init 12 = .ok (.iconst 0, 1) := by decide +kernel
theorem dX2_init_13 : decode cX2_init 13 = .ok (.istore_n 1, 1) := by decide +kernel
theorem dX2_init_14 : decode cX2_init 14 = .ok (.iload_n 1, 1) := by decide +kernel
theorem dX2_init_15 : decode cX2_init 15 = .ok (.iconst 5, 1) := by decide +kernel
theorem dX2_init_16 : decode cX2_init 16 = .ok (.if_icmp .ge 22, 3) := by decide +kernel
theorem dX2_init_19 : decode cX2_init 19 = .ok (.aload_n 0, 1) := by decide +kernel
theorem dX2_init_20 : decode cX2_init 20 = .ok (.getfield 11, 3) := by decide +kernel
theorem dX2_init_23 : decode cX2_init 23 = .ok (.iload_n 1, 1) := by decide +kernel
theorem dX2_init_24 : decode cX2_init 24 = .ok (.new 9, 3) := by decide +kernel
theorem dX2_init_27 : decode cX2_init 27 = .ok (.dup, 1) := by decide +kernel
theorem dX2_init_28 : decode cX2_init 28 = .ok (.invokespecial 15, 3) := by decide +kernel
theorem dX2_init_31 : decode cX2_init 31 = .ok (.aastore, 1) := by decide +kernel
theorem dX2_init_32 : decode cX2_init 32 = .ok (.iinc 1 1, 3) := by decide +kernel
theorem dX2_init_35 : decode cX2_init 35 = .ok (.goto (-21), 3) := by decide +kernel
theorem dX2_init_38 : decode cX2_init 38 = .ok (.aload_n 0, 1) := by decide +kernel
theorem dX2_init_39 : decode cX2_init 39 = .ok (.new 16, 3) := by decide +kernel
theorem dX2_init_42 : decode cX2_init 42 = .ok (.dup, 1) := by decide +kernel
theorem dX2_init_43 : decode cX2_init 43 = .ok (.invokespecial 18, 3) := by decide +kernel
theorem dX2_init_46 : decode cX2_init 46 = .ok (.putfield 19, 3) := by decide +kernel
theorem dX2_init_49 : decode cX2_init 49 = .ok (.return_, 1) := by decide +kernel
set_option maxRecDepth 20000 in
theorem ggX2_spawn_X2_leastIdle : GoodIn wsX2_spawn wsX2_leastIdle := goodIn_r _ [6, 1, 28, 29, 30, 31, 32, 33, 34, 35] (by decide +kernel) (by decide +kernel)
set_option maxRecDepth 20000 in
theorem gX2_spawn_X2_leastIdle : GoodIn wsX2_spawn (wsV RX2 23 RX2 yX2_leastIdle wsX2_leastIdle) := goodIn_app (goodIn_of _ (by decide +kernel)) ggX2_spawn_X2_leastIdle
set_option maxRecDepth 20000 in
theorem ggX2_spawn_X2_freeFrames : GoodIn wsX2_spawn wsX2_freeFrames := goodIn_r _ [10, 11, 1, 12, 13, 14, 15, 16, 17, 18, 19, 20, 21, 22, 23, 24, 25, 26, 27, 28, 29, 30, 31, 32, 33, 34, 35, 36, 37] (by decide +kernel) (by decide +kernel)
set_option maxRecDepth 20000 in
theorem gX2_spawn_X2_freeFrames : GoodIn wsX2_spawn (wsV RX2 27 RX2 yX2_freeFrames wsX2_freeFrames) := goodIn_app (goodIn_of _ (by decide +kernel)) ggX2_spawn_X2_freeFrames
set_option maxRecDepth 20000 in
theorem ggX2_spawn_X0_tablesFor : GoodIn wsX2_spawn wsX0_tablesFor := goodIn_r _ [24, 25, 26, 18, 27] (by decide +kernel) (by decide +kernel)
set_option maxRecDepth 20000 in
theorem gX2_spawn_X0_tablesFor_n30 : GoodIn wsX2_spawn (wsX0_tablesFor) := ggX2_spawn_X0_tablesFor
theorem dX2_spawn_0 : decode cX2_spawn 0 = .ok (.aload_n 0, 1) := by decide +kernel
theorem dX2_spawn_1 : decode cX2_spawn 1 = .ok (.invokevirtual 23, 3) := by decide +kernel
theorem dX2_spawn_4 : decode cX2_spawn 4 = .ok (.istore_n 1, 1) := by decide +kernel
theorem dX2_spawn_5 : decode cX2_spawn 5 = .ok (.iload_n 1, 1) := by decide +kernel
theorem dX2_spawn_6 : decode cX2_spawn 6 = .ok (.ifCond .ge 6, 3) := by decide +kernel
theorem dX2_spawn_9 : decode cX2_spawn 9 = .ok (.bipush (-7), 2) := by decide +kernel
theorem dX2_spawn_11 : decode cX2_spawn 11 = .ok (.ireturn, 1) := by decide +kernel
theorem dX2_spawn_12 : decode cX2_spawn 12 = .ok (.aload_n 0, 1) := by decide +kernel
theorem dX2_spawn_13 : decode cX2_spawn 13 = .ok (.invokevirtual 27, 3) := by decide +kernel
theorem dX2_spawn_16 : decode cX2_spawn 16 = .ok (.lconst 0, 1) := by decide +kernel
theorem dX2_spawn_17 : decode cX2_spawn 17 = .ok (.invokestatic 30, 3) := by decide +kernel
theorem dX2_spawn_20 : decode cX2_spawn 20 = .ok (.if_icmp .ge 6, 3) := by decide +kernel
theorem dX2_spawn_23 : decode cX2_spawn 23 = .ok (.bipush (-8), 2) := by decide +kernel
theorem dX2_spawn_25 : decode cX2_spawn 25 = .ok (.ireturn, 1) := by decide +kernel
theorem dX2_spawn_26 : decode cX2_spawn 26 = .ok (.aload_n 0, 1) := by decide +kernel
theorem dX2_spawn_27 : decode cX2_spawn 27 = .ok (.getfield 11, 3) := by decide +kernel
theorem dX2_spawn_30 : decode cX2_spawn 30 = .ok (.iload_n 1, 1) := by decide +kernel
theorem dX2_spawn_31 : decode cX2_spawn 31 = .ok (.aaload, 1) := by decide +kernel
theorem dX2_spawn_32 : decode cX2_spawn 32 = .ok (.iconst 1, 1) := by decide +kernel
theorem dX2_spawn_33 : decode cX2_spawn 33 = .ok (.putfield 34, 3) := by decide +kernel
theorem dX2_spawn_36 : decode cX2_spawn 36 = .ok (.iload_n 1, 1) := by decide +kernel
theorem dX2_spawn_37 : decode cX2_spawn 37 = .ok (.ireturn, 1) := by decide +kernel
set_option maxRecDepth 20000 in
theorem ggX2_fork_X2_isRunning : GoodIn wsX2_fork wsX2_isRunning := goodIn_r _ [6, 1, 54, 55, 56, 57, 58, 59, 60, 61] (by decide +kernel) (by decide +kernel)
set_option maxRecDepth 20000 in
theorem gX2_fork_X2_isRunning : GoodIn wsX2_fork (wsV RX2 38 RX2 yX2_isRunning wsX2_isRunning) := goodIn_app (goodIn_of _ (by decide +kernel)) ggX2_fork_X2_isRunning
set_option maxRecDepth 20000 in
theorem ggX2_fork_X2_leastIdle : GoodIn wsX2_fork wsX2_leastIdle := goodIn_r _ [10, 1, 54, 55, 56, 57, 58, 59, 60, 61] (by decide +kernel) (by decide +kernel)
set_option maxRecDepth 20000 in
theorem gX2_fork_X2_leastIdle : GoodIn wsX2_fork (wsV RX2 23 RX2 yX2_leastIdle wsX2_leastIdle) := goodIn_app (goodIn_of _ (by decide +kernel)) ggX2_fork_X2_leastIdle
set_option maxRecDepth 20000 in
theorem ggX2_fork_X2_freeFrames : GoodIn wsX2_fork wsX2_freeFrames := goodIn_r _ [14, 15, 1, 16, 17, 18, 19, 20, 21, 22, 23, 24, 25, 26, 27, 28, 29, 30, 31, 54, 55, 56, 57, 58, 59, 60, 61, 62, 63] (by decide +kernel) (by decide +kernel)
set_option maxRecDepth 20000 in
theorem gX2_fork_X2_freeFrames : GoodIn wsX2_fork (wsV RX2 27 RX2 yX2_freeFrames wsX2_freeFrames) := goodIn_app (goodIn_of _ (by decide +kernel)) ggX2_fork_X2_freeFrames
set_option maxRecDepth 20000 in
theorem ggX2_fork_X0_tableCount : GoodIn wsX2_fork wsX0_tableCount := goodIn_r _ [24, 25, 26, 27, 22, 28, 29, 30, 31, 58, 59, 60, 61] (by decide +kernel) (by decide +kernel)
set_option maxRecDepth 20000 in
theorem gX2_fork_X0_tableCount_n42 : GoodIn wsX2_fork (wsX0_tableCount) := ggX2_fork_X0_tableCount
set_option maxRecDepth 20000 in
theorem ggX2_fork_X0_has : GoodIn wsX2_fork wsX0_has := goodIn_r _ [34, 25, 58, 59, 60, 61] (by decide +kernel) (by decide +kernel)
set_option maxRecDepth 20000 in
theorem gX2_fork_X0_has_n45 : GoodIn wsX2_fork (wsX0_has) := ggX2_fork_X0_has
set_option maxRecDepth 20000 in
theorem ggX2_fork_X2_sharePage : GoodIn wsX2_fork wsX2_sharePage := goodIn_r _ [38, 39, 22, 40, 41, 42, 43, 44, 45, 46, 47, 48, 5, 49, 15, 50, 51, 52, 25, 53, 58, 59, 60, 61, 54, 55, 56, 57, 62, 63] (by decide +kernel) (by decide +kernel)
set_option maxRecDepth 20000 in
theorem gX2_fork_X2_sharePage : GoodIn wsX2_fork (wsV RX2 48 RX2 yX2_sharePage wsX2_sharePage) := goodIn_app (goodIn_of _ (by decide +kernel)) ggX2_fork_X2_sharePage
theorem dX2_fork_0 : decode cX2_fork 0 = .ok (.aload_n 0, 1) := by decide +kernel
theorem dX2_fork_1 : decode cX2_fork 1 = .ok (.iload_n 1, 1) := by decide +kernel
theorem dX2_fork_2 : decode cX2_fork 2 = .ok (.invokevirtual 38, 3) := by decide +kernel
theorem dX2_fork_5 : decode cX2_fork 5 = .ok (.ifCond .ne 5, 3) := by decide +kernel
theorem dX2_fork_8 : decode cX2_fork 8 = .ok (.iconst (-1), 1) := by decide +kernel
theorem dX2_fork_9 : decode cX2_fork 9 = .ok (.ireturn, 1) := by decide +kernel
theorem dX2_fork_10 : decode cX2_fork 10 = .ok (.aload_n 0, 1) := by decide +kernel
theorem dX2_fork_11 : decode cX2_fork 11 = .ok (.invokevirtual 23, 3) := by decide +kernel
theorem dX2_fork_14 : decode cX2_fork 14 = .ok (.istore_n 2, 1) := by decide +kernel
theorem dX2_fork_15 : decode cX2_fork 15 = .ok (.iload_n 2, 1) := by decide +kernel
theorem dX2_fork_16 : decode cX2_fork 16 = .ok (.ifCond .ge 6, 3) := by decide +kernel
theorem dX2_fork_19 : decode cX2_fork 19 = .ok (.bipush (-7), 2) := by decide +kernel
theorem dX2_fork_21 : decode cX2_fork 21 = .ok (.ireturn, 1) := by decide +kernel
theorem dX2_fork_22 : decode cX2_fork 22 = .ok (.aload_n 0, 1) := by decide +kernel
theorem dX2_fork_23 : decode cX2_fork 23 = .ok (.getfield 11, 3) := by decide +kernel
theorem dX2_fork_26 : decode cX2_fork 26 = .ok (.iload_n 1, 1) := by decide +kernel
theorem dX2_fork_27 : decode cX2_fork 27 = .ok (.aaload, 1) := by decide +kernel
theorem dX2_fork_28 : decode cX2_fork 28 = .ok (.astore_n 3, 1) := by decide +kernel
theorem dX2_fork_29 : decode cX2_fork 29 = .ok (.aload_n 0, 1) := by decide +kernel
theorem dX2_fork_30 : decode cX2_fork 30 = .ok (.invokevirtual 27, 3) := by decide +kernel
theorem dX2_fork_33 : decode cX2_fork 33 = .ok (.aload_n 3, 1) := by decide +kernel
theorem dX2_fork_34 : decode cX2_fork 34 = .ok (.invokevirtual 42, 3) := by decide +kernel
theorem dX2_fork_37 : decode cX2_fork 37 = .ok (.if_icmp .ge 6, 3) := by decide +kernel
theorem dX2_fork_40 : decode cX2_fork 40 = .ok (.bipush (-8), 2) := by decide +kernel
theorem dX2_fork_42 : decode cX2_fork 42 = .ok (.ireturn, 1) := by decide +kernel
theorem dX2_fork_43 : decode cX2_fork 43 = .ok (.aload_n 0, 1) := by decide +kernel
theorem dX2_fork_44 : decode cX2_fork 44 = .ok (.getfield 11, 3) := by decide +kernel
theorem dX2_fork_47 : decode cX2_fork 47 = .ok (.iload_n 2, 1) := by decide +kernel
theorem dX2_fork_48 : decode cX2_fork 48 = .ok (.aaload, 1) := by decide +kernel
theorem dX2_fork_49 : decode cX2_fork 49 = .ok (.astore 4, 2) := by decide +kernel
theorem dX2_fork_51 : decode cX2_fork 51 = .ok (.aload 4, 2) := by decide +kernel
theorem dX2_fork_53 : decode cX2_fork 53 = .ok (.iconst 1, 1) := by decide +kernel
theorem dX2_fork_54 : decode cX2_fork 54 = .ok (.putfield 34, 3) := by decide +kernel
theorem dX2_fork_57 : decode cX2_fork 57 = .ok (.iconst 0, 1) := by decide +kernel
theorem dX2_fork_58 : decode cX2_fork 58 = .ok (.istore 5, 2) := by decide +kernel
theorem dX2_fork_60 : decode cX2_fork 60 = .ok (.iload 5, 2) := by decide +kernel
theorem dX2_fork_62 : decode cX2_fork 62 = .ok (.bipush 64, 2) := by decide +kernel
theorem dX2_fork_64 : decode cX2_fork 64 = .ok (.if_icmp .ge 27, 3) := by decide +kernel
theorem dX2_fork_67 : decode cX2_fork 67 = .ok (.aload_n 3, 1) := by decide +kernel
theorem dX2_fork_68 : decode cX2_fork 68 = .ok (.iload 5, 2) := by decide +kernel
theorem dX2_fork_70 : decode cX2_fork 70 = .ok (.invokevirtual 45, 3) := by decide +kernel
theorem dX2_fork_73 : decode cX2_fork 73 = .ok (.ifCond .eq 12, 3) := by decide +kernel
theorem dX2_fork_76 : decode cX2_fork 76 = .ok (.aload_n 0, 1) := by decide +kernel
theorem dX2_fork_77 : decode cX2_fork 77 = .ok (.aload_n 3, 1) := by decide +kernel
theorem dX2_fork_78 : decode cX2_fork 78 = .ok (.aload 4, 2) := by decide +kernel
theorem dX2_fork_80 : decode cX2_fork 80 = .ok (.iload 5, 2) := by decide +kernel
theorem dX2_fork_82 : decode cX2_fork 82 = .ok (.invokevirtual 48, 3) := by decide +kernel
theorem dX2_fork_85 : decode cX2_fork 85 = .ok (.iinc 5 1, 3) := by decide +kernel
theorem dX2_fork_88 : decode cX2_fork 88 = .ok (.goto (-28), 3) := by decide +kernel
theorem dX2_fork_91 : decode cX2_fork 91 = .ok (.iload_n 2, 1) := by decide +kernel
theorem dX2_fork_92 : decode cX2_fork 92 = .ok (.ireturn, 1) := by decide +kernel
set_option maxRecDepth 20000 in
theorem ggX2_exit_X2_isRunning : GoodIn wsX2_exit wsX2_isRunning := goodIn_r _ [6, 1, 39, 40, 41, 42, 43, 44, 45, 46] (by decide +kernel) (by decide +kernel)
set_option maxRecDepth 20000 in
theorem gX2_exit_X2_isRunning : GoodIn wsX2_exit (wsV RX2 38 RX2 yX2_isRunning wsX2_isRunning) := goodIn_app (goodIn_of _ (by decide +kernel)) ggX2_exit_X2_isRunning
set_option maxRecDepth 20000 in
theorem ggX2_exit_X2_freeFrames : GoodIn wsX2_exit wsX2_freeFrames := goodIn_r _ [10, 11, 1, 12, 13, 14, 15, 16, 17, 18, 19, 20, 21, 22, 23, 24, 25, 26, 27, 39, 40, 41, 42, 43, 44, 45, 46, 47, 48] (by decide +kernel) (by decide +kernel)
set_option maxRecDepth 20000 in
theorem gX2_exit_X2_freeFrames : GoodIn wsX2_exit (wsV RX2 27 RX2 yX2_freeFrames wsX2_freeFrames) := goodIn_app (goodIn_of _ (by decide +kernel)) ggX2_exit_X2_freeFrames
set_option maxRecDepth 20000 in
theorem ggX2_exit_X0_has : GoodIn wsX2_exit wsX0_has := goodIn_r _ [30, 21, 43, 44, 45, 46] (by decide +kernel) (by decide +kernel)
set_option maxRecDepth 20000 in
theorem gX2_exit_X0_has_n45 : GoodIn wsX2_exit (wsX0_has) := ggX2_exit_X0_has
set_option maxRecDepth 20000 in
theorem ggX2_exit_X2_endMapping : GoodIn wsX2_exit wsX2_endMapping := goodIn_r _ [34, 11, 35, 18, 36, 37, 21, 38, 39, 40, 41, 42, 47, 48, 43, 44, 45, 46] (by decide +kernel) (by decide +kernel)
set_option maxRecDepth 20000 in
theorem gX2_exit_X2_endMapping : GoodIn wsX2_exit (wsV RX2 52 RX2 yX2_endMapping wsX2_endMapping) := goodIn_app (goodIn_of _ (by decide +kernel)) ggX2_exit_X2_endMapping
theorem dX2_exit_0 : decode cX2_exit 0 = .ok (.aload_n 0, 1) := by decide +kernel
theorem dX2_exit_1 : decode cX2_exit 1 = .ok (.iload_n 1, 1) := by decide +kernel
theorem dX2_exit_2 : decode cX2_exit 2 = .ok (.invokevirtual 38, 3) := by decide +kernel
theorem dX2_exit_5 : decode cX2_exit 5 = .ok (.ifCond .ne 5, 3) := by decide +kernel
theorem dX2_exit_8 : decode cX2_exit 8 = .ok (.iconst (-1), 1) := by decide +kernel
theorem dX2_exit_9 : decode cX2_exit 9 = .ok (.ireturn, 1) := by decide +kernel
theorem dX2_exit_10 : decode cX2_exit 10 = .ok (.aload_n 0, 1) := by decide +kernel
theorem dX2_exit_11 : decode cX2_exit 11 = .ok (.invokevirtual 27, 3) := by decide +kernel
theorem dX2_exit_14 : decode cX2_exit 14 = .ok (.istore_n 2, 1) := by decide +kernel
theorem dX2_exit_15 : decode cX2_exit 15 = .ok (.aload_n 0, 1) := by decide +kernel
theorem dX2_exit_16 : decode cX2_exit 16 = .ok (.getfield 11, 3) := by decide +kernel
theorem dX2_exit_19 : decode cX2_exit 19 = .ok (.iload_n 1, 1) := by decide +kernel
theorem dX2_exit_20 : decode cX2_exit 20 = .ok (.aaload, 1) := by decide +kernel
theorem dX2_exit_21 : decode cX2_exit 21 = .ok (.astore_n 3, 1) := by decide +kernel
theorem dX2_exit_22 : decode cX2_exit 22 = .ok (.iconst 0, 1) := by decide +kernel
theorem dX2_exit_23 : decode cX2_exit 23 = .ok (.istore 4, 2) := by decide +kernel
theorem dX2_exit_25 : decode cX2_exit 25 = .ok (.iload 4, 2) := by decide +kernel
theorem dX2_exit_27 : decode cX2_exit 27 = .ok (.bipush 64, 2) := by decide +kernel
theorem dX2_exit_29 : decode cX2_exit 29 = .ok (.if_icmp .ge 25, 3) := by decide +kernel
theorem dX2_exit_32 : decode cX2_exit 32 = .ok (.aload_n 3, 1) := by decide +kernel
theorem dX2_exit_33 : decode cX2_exit 33 = .ok (.iload 4, 2) := by decide +kernel
theorem dX2_exit_35 : decode cX2_exit 35 = .ok (.invokevirtual 45, 3) := by decide +kernel
theorem dX2_exit_38 : decode cX2_exit 38 = .ok (.ifCond .eq 10, 3) := by decide +kernel
theorem dX2_exit_41 : decode cX2_exit 41 = .ok (.aload_n 0, 1) := by decide +kernel
theorem dX2_exit_42 : decode cX2_exit 42 = .ok (.aload_n 3, 1) := by decide +kernel
theorem dX2_exit_43 : decode cX2_exit 43 = .ok (.iload 4, 2) := by decide +kernel
theorem dX2_exit_45 : decode cX2_exit 45 = .ok (.invokevirtual 52, 3) := by decide +kernel
theorem dX2_exit_48 : decode cX2_exit 48 = .ok (.iinc 4 1, 3) := by decide +kernel
theorem dX2_exit_51 : decode cX2_exit 51 = .ok (.goto (-26), 3) := by decide +kernel
theorem dX2_exit_54 : decode cX2_exit 54 = .ok (.aload_n 3, 1) := by decide +kernel
theorem dX2_exit_55 : decode cX2_exit 55 = .ok (.iconst 0, 1) := by decide +kernel
theorem dX2_exit_56 : decode cX2_exit 56 = .ok (.putfield 34, 3) := by decide +kernel
theorem dX2_exit_59 : decode cX2_exit 59 = .ok (.aload_n 0, 1) := by decide +kernel
theorem dX2_exit_60 : decode cX2_exit 60 = .ok (.invokevirtual 27, 3) := by decide +kernel
theorem dX2_exit_63 : decode cX2_exit 63 = .ok (.iload_n 2, 1) := by decide +kernel
theorem dX2_exit_64 : decode cX2_exit 64 = .ok (.isub, 1) := by decide +kernel
theorem dX2_exit_65 : decode cX2_exit 65 = .ok (.ireturn, 1) := by decide +kernel
set_option maxRecDepth 20000 in
theorem ggX2_map_X2_isRunning : GoodIn wsX2_map wsX2_isRunning := goodIn_r _ [7, 1, 53, 54, 55, 56, 57, 58, 59, 60] (by decide +kernel) (by decide +kernel)
set_option maxRecDepth 20000 in
theorem gX2_map_X2_isRunning : GoodIn wsX2_map (wsV RX2 38 RX2 yX2_isRunning wsX2_isRunning) := goodIn_app (goodIn_of _ (by decide +kernel)) ggX2_map_X2_isRunning
set_option maxRecDepth 20000 in
theorem ggX2_map_X2_isPage : GoodIn wsX2_map wsX2_isPage := goodIn_r _ [10] (by decide +kernel) (by decide +kernel)
set_option maxRecDepth 20000 in
theorem gX2_map_X2_isPage : GoodIn wsX2_map (va_wsS RX2 56 yX2_isPage wsX2_isPage) := goodIn_app (goodIn_of _ (by decide +kernel)) ggX2_map_X2_isPage
set_option maxRecDepth 20000 in
theorem ggX2_map_X0_has : GoodIn wsX2_map wsX0_has := goodIn_r _ [14, 15, 57, 58, 59, 60] (by decide +kernel) (by decide +kernel)
set_option maxRecDepth 20000 in
theorem gX2_map_X0_has_n45 : GoodIn wsX2_map (wsX0_has) := ggX2_map_X0_has
set_option maxRecDepth 20000 in
theorem ggX2_map_X0_tablesToAdd : GoodIn wsX2_map wsX0_tablesToAdd := goodIn_r _ [18, 15, 19, 20, 12, 21, 22, 23, 24, 57, 58, 59, 60] (by decide +kernel) (by decide +kernel)
set_option maxRecDepth 20000 in
theorem gX2_map_X0_tablesToAdd_n59 : GoodIn wsX2_map (wsX0_tablesToAdd) := ggX2_map_X0_tablesToAdd
set_option maxRecDepth 20000 in
theorem ggX2_map_X2_freeFrames : GoodIn wsX2_map wsX2_freeFrames := goodIn_r _ [28, 2, 1, 29, 30, 31, 32, 33, 34, 12, 35, 36, 15, 19, 20, 21, 22, 23, 24, 53, 54, 55, 56, 57, 58, 59, 60, 61, 62] (by decide +kernel) (by decide +kernel)
set_option maxRecDepth 20000 in
theorem gX2_map_X2_freeFrames : GoodIn wsX2_map (wsV RX2 27 RX2 yX2_freeFrames wsX2_freeFrames) := goodIn_app (goodIn_of _ (by decide +kernel)) ggX2_map_X2_freeFrames
set_option maxRecDepth 20000 in
theorem ggX2_map_X1_unusedFrame : GoodIn wsX2_map wsX1_unusedFrame := goodIn_r _ [39, 33, 61, 62] (by decide +kernel) (by decide +kernel)
set_option maxRecDepth 20000 in
theorem gX2_map_X1_unusedFrame_n63 : GoodIn wsX2_map (wsX1_unusedFrame) := ggX2_map_X1_unusedFrame
set_option maxRecDepth 20000 in
theorem ggX2_map_X1_blank : GoodIn wsX2_map wsX1_blank := goodIn_r _ [42, 43, 61, 62] (by decide +kernel) (by decide +kernel)
set_option maxRecDepth 20000 in
theorem gX2_map_X1_blank_n66 : GoodIn wsX2_map (wsX1_blank) := ggX2_map_X1_blank
set_option maxRecDepth 20000 in
theorem ggX2_map_X2_startMapping : GoodIn wsX2_map wsX2_startMapping := goodIn_r _ [47, 2, 48, 12, 49, 50, 15, 51, 52, 53, 54, 55, 56, 61, 62, 57, 58, 59, 60] (by decide +kernel) (by decide +kernel)
set_option maxRecDepth 20000 in
theorem gX2_map_X2_startMapping : GoodIn wsX2_map (wsV RX2 70 RX2 yX2_startMapping wsX2_startMapping) := goodIn_app (goodIn_of _ (by decide +kernel)) ggX2_map_X2_startMapping
theorem dX2_map_0 : decode cX2_map 0 = .ok (.aload_n 0, 1) := by decide +kernel
theorem dX2_map_1 : decode cX2_map 1 = .ok (.iload_n 1, 1) := by decide +kernel
theorem dX2_map_2 : decode cX2_map 2 = .ok (.invokevirtual 38, 3) := by decide +kernel
theorem dX2_map_5 : decode cX2_map 5 = .ok (.ifCond .ne 5, 3) := by decide +kernel
theorem dX2_map_8 : decode cX2_map 8 = .ok (.iconst (-1), 1) := by decide +kernel
theorem dX2_map_9 : decode cX2_map 9 = .ok (.ireturn, 1) := by decide +kernel
theorem dX2_map_10 : decode cX2_map 10 = .ok (.iload_n 2, 1) := by decide +kernel
theorem dX2_map_11 : decode cX2_map 11 = .ok (.invokestatic 56, 3) := by decide +kernel
theorem dX2_map_14 : decode cX2_map 14 = .ok (.ifCond .ne 6, 3) := by decide +kernel
theorem dX2_map_17 : decode cX2_map 17 = .ok (.bipush (-2), 2) := by decide +kernel
theorem dX2_map_19 : decode cX2_map 19 = .ok (.ireturn, 1) := by decide +kernel
theorem dX2_map_20 : decode cX2_map 20 = .ok (.aload_n 0, 1) := by decide +kernel
theorem dX2_map_21 : decode cX2_map 21 = .ok (.getfield 11, 3) := by decide +kernel
theorem dX2_map_24 : decode cX2_map 24 = .ok (.iload_n 1, 1) := by decide +kernel
theorem dX2_map_25 : decode cX2_map 25 = .ok (.aaload, 1) := by decide +kernel
theorem dX2_map_26 : decode cX2_map 26 = .ok (.astore 4, 2) := by decide +kernel
theorem dX2_map_28 : decode cX2_map 28 = .ok (.aload 4, 2) := by decide +kernel
theorem dX2_map_30 : decode cX2_map 30 = .ok (.iload_n 2, 1) := by decide +kernel
theorem dX2_map_31 : decode cX2_map 31 = .ok (.invokevirtual 45, 3) := by decide +kernel
theorem dX2_map_34 : decode cX2_map 34 = .ok (.ifCond .eq 6, 3) := by decide +kernel
theorem dX2_map_37 : decode cX2_map 37 = .ok (.bipush (-4), 2) := by decide +kernel
theorem dX2_map_39 : decode cX2_map 39 = .ok (.ireturn, 1) := by decide +kernel
theorem dX2_map_40 : decode cX2_map 40 = .ok (.iconst 1, 1) := by decide +kernel
theorem dX2_map_41 : decode cX2_map 41 = .ok (.aload 4, 2) := by decide +kernel
theorem dX2_map_43 : decode cX2_map 43 = .ok (.iload_n 2, 1) := by decide +kernel
theorem dX2_map_44 : decode cX2_map 44 = .ok (.invokevirtual 59, 3) := by decide +kernel
theorem dX2_map_47 : decode cX2_map 47 = .ok (.iadd, 1) := by decide +kernel
theorem dX2_map_48 : decode cX2_map 48 = .ok (.istore 5, 2) := by decide +kernel
theorem dX2_map_50 : decode cX2_map 50 = .ok (.aload_n 0, 1) := by decide +kernel
theorem dX2_map_51 : decode cX2_map 51 = .ok (.invokevirtual 27, 3) := by decide +kernel
theorem dX2_map_54 : decode cX2_map 54 = .ok (.iload 5, 2) := by decide +kernel
theorem dX2_map_56 : decode cX2_map 56 = .ok (.if_icmp .ge 6, 3) := by decide +kernel
theorem dX2_map_59 : decode cX2_map 59 = .ok (.bipush (-8), 2) := by decide +kernel
theorem dX2_map_61 : decode cX2_map 61 = .ok (.ireturn, 1) := by decide +kernel
theorem dX2_map_62 : decode cX2_map 62 = .ok (.aload_n 0, 1) := by decide +kernel
theorem dX2_map_63 : decode cX2_map 63 = .ok (.getfield 19, 3) := by decide +kernel
theorem dX2_map_66 : decode cX2_map 66 = .ok (.invokevirtual 63, 3) := by decide +kernel
theorem dX2_map_69 : decode cX2_map 69 = .ok (.istore 6, 2) := by decide +kernel
theorem dX2_map_71 : decode cX2_map 71 = .ok (.aload_n 0, 1) := by decide +kernel
theorem dX2_map_72 : decode cX2_map 72 = .ok (.getfield 19, 3) := by decide +kernel
theorem dX2_map_75 : decode cX2_map 75 = .ok (.iload 6, 2) := by decide +kernel
theorem dX2_map_77 : decode cX2_map 77 = .ok (.invokevirtual 66, 3) := by decide +kernel
theorem dX2_map_80 : decode cX2_map 80 = .ok (.aload_n 0, 1) := by decide +kernel
theorem dX2_map_81 : decode cX2_map 81 = .ok (.aload 4, 2) := by decide +kernel
theorem dX2_map_83 : decode cX2_map 83 = .ok (.iload_n 2, 1) := by decide +kernel
theorem dX2_map_84 : decode cX2_map 84 = .ok (.iload 6, 2) := by decide +kernel
theorem dX2_map_86 : decode cX2_map 86 = .ok (.iload_n 3, 1) := by decide +kernel
theorem dX2_map_87 : decode cX2_map 87 = .ok (.ifCond .eq 7, 3) := by decide +kernel
theorem dX2_map_90 : decode cX2_map 90 = .ok (.iconst 3, 1) := by decide +kernel
theorem dX2_map_91 : decode cX2_map 91 = .ok (.goto 4, 3) := by decide +kernel
theorem dX2_map_94 : decode cX2_map 94 = .ok (.iconst 1, 1) := by decide +kernel
theorem dX2_map_95 : decode cX2_map 95 = .ok (.invokevirtual 70, 3) := by decide +kernel
theorem dX2_map_98 : decode cX2_map 98 = .ok (.iload 5, 2) := by decide +kernel
theorem dX2_map_100 : decode cX2_map 100 = .ok (.ireturn, 1) := by decide +kernel
set_option maxRecDepth 20000 in
theorem ggX2_attach_X2_isRunning : GoodIn wsX2_attach wsX2_isRunning := goodIn_r _ [6, 1, 49, 50, 51, 52, 53, 54, 55, 56] (by decide +kernel) (by decide +kernel)
set_option maxRecDepth 20000 in
theorem gX2_attach_X2_isRunning : GoodIn wsX2_attach (wsV RX2 38 RX2 yX2_isRunning wsX2_isRunning) := goodIn_app (goodIn_of _ (by decide +kernel)) ggX2_attach_X2_isRunning
set_option maxRecDepth 20000 in
theorem ggX2_attach_X2_isPage : GoodIn wsX2_attach wsX2_isPage := goodIn_r _ [9] (by decide +kernel) (by decide +kernel)
set_option maxRecDepth 20000 in
theorem gX2_attach_X2_isPage : GoodIn wsX2_attach (va_wsS RX2 56 yX2_isPage wsX2_isPage) := goodIn_app (goodIn_of _ (by decide +kernel)) ggX2_attach_X2_isPage
set_option maxRecDepth 20000 in
theorem ggX2_attach_X0_has : GoodIn wsX2_attach wsX0_has := goodIn_r _ [13, 14, 53, 54, 55, 56] (by decide +kernel) (by decide +kernel)
set_option maxRecDepth 20000 in
theorem gX2_attach_X0_has_n45 : GoodIn wsX2_attach (wsX0_has) := ggX2_attach_X0_has
set_option maxRecDepth 20000 in
theorem ggX2_attach_X0_is : GoodIn wsX2_attach wsX0_is := goodIn_r _ [17, 18, 53, 54, 55, 56] (by decide +kernel) (by decide +kernel)
set_option maxRecDepth 20000 in
theorem gX2_attach_X0_is_n74 : GoodIn wsX2_attach (wsX0_is) := ggX2_attach_X0_is
set_option maxRecDepth 20000 in
theorem ggX2_attach_X0_tablesToAdd : GoodIn wsX2_attach wsX0_tablesToAdd := goodIn_r _ [21, 14, 22, 23, 11, 24, 25, 26, 27, 53, 54, 55, 56] (by decide +kernel) (by decide +kernel)
set_option maxRecDepth 20000 in
theorem gX2_attach_X0_tablesToAdd_n59 : GoodIn wsX2_attach (wsX0_tablesToAdd) := ggX2_attach_X0_tablesToAdd
set_option maxRecDepth 20000 in
theorem ggX2_attach_X2_freeFrames : GoodIn wsX2_attach wsX2_freeFrames := goodIn_r _ [31, 32, 1, 33, 34, 35, 36, 37, 38, 11, 39, 40, 14, 22, 23, 24, 25, 26, 27, 49, 50, 51, 52, 53, 54, 55, 56, 57, 58] (by decide +kernel) (by decide +kernel)
set_option maxRecDepth 20000 in
theorem gX2_attach_X2_freeFrames : GoodIn wsX2_attach (wsV RX2 27 RX2 yX2_freeFrames wsX2_freeFrames) := goodIn_app (goodIn_of _ (by decide +kernel)) ggX2_attach_X2_freeFrames
set_option maxRecDepth 20000 in
theorem ggX2_attach_X2_startMapping : GoodIn wsX2_attach wsX2_startMapping := goodIn_r _ [44, 32, 45, 11, 46, 47, 14, 48, 18, 49, 50, 51, 52, 57, 58, 53, 54, 55, 56] (by decide +kernel) (by decide +kernel)
set_option maxRecDepth 20000 in
theorem gX2_attach_X2_startMapping : GoodIn wsX2_attach (wsV RX2 70 RX2 yX2_startMapping wsX2_startMapping) := goodIn_app (goodIn_of _ (by decide +kernel)) ggX2_attach_X2_startMapping
theorem dX2_attach_0 : decode cX2_attach 0 = .ok (.aload_n 0, 1) := by decide +kernel
theorem dX2_attach_1 : decode cX2_attach 1 = .ok (.iload_n 1, 1) := by decide +kernel
theorem dX2_attach_2 : decode cX2_attach 2 = .ok (.invokevirtual 38, 3) := by decide +kernel
theorem dX2_attach_5 : decode cX2_attach 5 = .ok (.ifCond .eq 11, 3) := by decide +kernel
theorem dX2_attach_8 : decode cX2_attach 8 = .ok (.aload_n 0, 1) := by decide +kernel
theorem dX2_attach_9 : decode cX2_attach 9 = .ok (.iload_n 3, 1) := by decide +kernel
theorem dX2_attach_10 : decode cX2_attach 10 = .ok (.invokevirtual 38, 3) := by decide +kernel
theorem dX2_attach_13 : decode cX2_attach 13 = .ok (.ifCond .ne 5, 3) := by decide +kernel
theorem dX2_attach_16 : decode cX2_attach 16 = .ok (.iconst (-1), 1) := by decide +kernel
theorem dX2_attach_17 : decode cX2_attach 17 = .ok (.ireturn, 1) := by decide +kernel
theorem dX2_attach_18 : decode cX2_attach 18 = .ok (.iload_n 2, 1) := by decide +kernel
theorem dX2_attach_19 : decode cX2_attach 19 = .ok (.invokestatic 56, 3) := by decide +kernel
theorem dX2_attach_22 : decode cX2_attach 22 = .ok (.ifCond .eq 11, 3) := by decide +kernel
theorem dX2_attach_25 : decode cX2_attach 25 = .ok (.iload 4, 2) := by decide +kernel
theorem dX2_attach_27 : decode cX2_attach 27 = .ok (.invokestatic 56, 3) := by decide +kernel
theorem dX2_attach_30 : decode cX2_attach 30 = .ok (.ifCond .ne 6, 3) := by decide +kernel
theorem dX2_attach_33 : decode cX2_attach 33 = .ok (.bipush (-2), 2) := by decide +kernel
theorem dX2_attach_35 : decode cX2_attach 35 = .ok (.ireturn, 1) := by decide +kernel
theorem dX2_attach_36 : decode cX2_attach 36 = .ok (.aload_n 0, 1) := by decide +kernel
theorem dX2_attach_37 : decode cX2_attach 37 = .ok (.getfield 11, 3) := by decide +kernel
theorem dX2_attach_40 : decode cX2_attach 40 = .ok (.iload_n 1, 1) := by decide +kernel
theorem dX2_attach_41 : decode cX2_attach 41 = .ok (.aaload, 1) := by decide +kernel
theorem dX2_attach_42 : decode cX2_attach 42 = .ok (.astore 5, 2) := by decide +kernel
theorem dX2_attach_44 : decode cX2_attach 44 = .ok (.aload_n 0, 1) := by decide +kernel
theorem dX2_attach_45 : decode cX2_attach 45 = .ok (.getfield 11, 3) := by decide +kernel
theorem dX2_attach_48 : decode cX2_attach 48 = .ok (.iload_n 3, 1) := by decide +kernel
theorem dX2_attach_49 : decode cX2_attach 49 = .ok (.aaload, 1) := by decide +kernel
theorem dX2_attach_50 : decode cX2_attach 50 = .ok (.astore 6, 2) := by decide +kernel
theorem dX2_attach_52 : decode cX2_attach 52 = .ok (.aload 6, 2) := by decide +kernel
theorem dX2_attach_54 : decode cX2_attach 54 = .ok (.iload 4, 2) := by decide +kernel
theorem dX2_attach_56 : decode cX2_attach 56 = .ok (.invokevirtual 45, 3) := by decide +kernel
theorem dX2_attach_59 : decode cX2_attach 59 = .ok (.ifCond .ne 6, 3) := by decide +kernel
theorem dX2_attach_62 : decode cX2_attach 62 = .ok (.bipush (-3), 2) := by decide +kernel
theorem dX2_attach_64 : decode cX2_attach 64 = .ok (.ireturn, 1) := by decide +kernel
theorem dX2_attach_65 : decode cX2_attach 65 = .ok (.aload 5, 2) := by decide +kernel
theorem dX2_attach_67 : decode cX2_attach 67 = .ok (.iload_n 2, 1) := by decide +kernel
theorem dX2_attach_68 : decode cX2_attach 68 = .ok (.invokevirtual 45, 3) := by decide +kernel
theorem dX2_attach_71 : decode cX2_attach 71 = .ok (.ifCond .eq 6, 3) := by decide +kernel
theorem dX2_attach_74 : decode cX2_attach 74 = .ok (.bipush (-4), 2) := by decide +kernel
theorem dX2_attach_76 : decode cX2_attach 76 = .ok (.ireturn, 1) := by decide +kernel
theorem dX2_attach_77 : decode cX2_attach 77 = .ok (.aload 6, 2) := by decide +kernel
theorem dX2_attach_79 : decode cX2_attach 79 = .ok (.iconst 2, 1) := by decide +kernel
theorem dX2_attach_80 : decode cX2_attach 80 = .ok (.iload 4, 2) := by decide +kernel
theorem dX2_attach_82 : decode cX2_attach 82 = .ok (.invokevirtual 74, 3) := by decide +kernel
theorem dX2_attach_85 : decode cX2_attach 85 = .ok (.ifCond .ne 6, 3) := by decide +kernel
theorem dX2_attach_88 : decode cX2_attach 88 = .ok (.bipush (-6), 2) := by decide +kernel
theorem dX2_attach_90 : decode cX2_attach 90 = .ok (.ireturn, 1) := by decide +kernel
theorem dX2_attach_91 : decode cX2_attach 91 = .ok (.aload 5, 2) := by decide +kernel
theorem dX2_attach_93 : decode cX2_attach 93 = .ok (.iload_n 2, 1) := by decide +kernel
theorem dX2_attach_94 : decode cX2_attach 94 = .ok (.invokevirtual 59, 3) := by decide +kernel
theorem dX2_attach_97 : decode cX2_attach 97 = .ok (.istore 7, 2) := by decide +kernel
theorem dX2_attach_99 : decode cX2_attach 99 = .ok (.aload_n 0, 1) := by decide +kernel
theorem dX2_attach_100 : decode cX2_attach 100 = .ok (.invokevirtual 27, 3) := by decide +kernel
theorem dX2_attach_103 : decode cX2_attach 103 = .ok (.iload 7, 2) := by decide +kernel
theorem dX2_attach_105 : decode cX2_attach 105 = .ok (.if_icmp .ge 6, 3) := by decide +kernel
theorem dX2_attach_108 : decode cX2_attach 108 = .ok (.bipush (-8), 2) := by decide +kernel
theorem dX2_attach_110 : decode cX2_attach 110 = .ok (.ireturn, 1) := by decide +kernel
theorem dX2_attach_111 : decode cX2_attach 111 = .ok (.aload 6, 2) := by decide +kernel
theorem dX2_attach_113 : decode cX2_attach 113 = .ok (.iconst 1, 1) := by decide +kernel
theorem dX2_attach_114 : decode cX2_attach 114 = .ok (.iload 4, 2) := by decide +kernel
theorem dX2_attach_116 : decode cX2_attach 116 = .ok (.invokevirtual 74, 3) := by decide +kernel
theorem dX2_attach_119 : decode cX2_attach 119 = .ok (.ifCond .eq 7, 3) := by decide +kernel
theorem dX2_attach_122 : decode cX2_attach 122 = .ok (.iconst 3, 1) := by decide +kernel
theorem dX2_attach_123 : decode cX2_attach 123 = .ok (.goto 4, 3) := by decide +kernel
theorem dX2_attach_126 : decode cX2_attach 126 = .ok (.iconst 2, 1) := by decide +kernel
theorem dX2_attach_127 : decode cX2_attach 127 = .ok (.istore 8, 2) := by decide +kernel
theorem dX2_attach_129 : decode cX2_attach 129 = .ok (.aload_n 0, 1) := by decide +kernel
theorem dX2_attach_130 : decode cX2_attach 130 = .ok (.aload 5, 2) := by decide +kernel
theorem dX2_attach_132 : decode cX2_attach 132 = .ok (.iload_n 2, 1) := by decide +kernel
theorem dX2_attach_133 : decode cX2_attach 133 = .ok (.aload 6, 2) := by decide +kernel
theorem dX2_attach_135 : decode cX2_attach 135 = .ok (.getfield 78, 3) := by decide +kernel
theorem dX2_attach_138 : decode cX2_attach 138 = .ok (.iload 4, 2) := by decide +kernel
theorem dX2_attach_140 : decode cX2_attach 140 = .ok (.iaload, 1) := by decide +kernel
theorem dX2_attach_141 : decode cX2_attach 141 = .ok (.iload 8, 2) := by decide +kernel
theorem dX2_attach_143 : decode cX2_attach 143 = .ok (.invokevirtual 70, 3) := by decide +kernel
theorem dX2_attach_146 : decode cX2_attach 146 = .ok (.iload 7, 2) := by decide +kernel
theorem dX2_attach_148 : decode cX2_attach 148 = .ok (.ireturn, 1) := by decide +kernel
set_option maxRecDepth 20000 in
theorem ggX2_unmap_X2_refusalOfMapped : GoodIn wsX2_unmap wsX2_refusalOfMapped := goodIn_r _ [6, 1, 7, 8, 9, 5, 10, 11, 12, 13, 14, 15, 16, 17, 18, 46, 47, 48, 49, 50, 51, 52, 53] (by decide +kernel) (by decide +kernel)
set_option maxRecDepth 20000 in
theorem gX2_unmap_X2_refusalOfMapped : GoodIn wsX2_unmap (wsV RX2 82 RX2 yX2_refusalOfMapped wsX2_refusalOfMapped) := goodIn_app (goodIn_of _ (by decide +kernel)) ggX2_unmap_X2_refusalOfMapped
set_option maxRecDepth 20000 in
theorem ggX2_unmap_X2_freeFrames : GoodIn wsX2_unmap wsX2_freeFrames := goodIn_r _ [22, 23, 1, 24, 25, 26, 27, 28, 29, 15, 30, 31, 18, 32, 33, 34, 35, 36, 37, 46, 47, 48, 49, 50, 51, 52, 53, 54, 55] (by decide +kernel) (by decide +kernel)
set_option maxRecDepth 20000 in
theorem gX2_unmap_X2_freeFrames : GoodIn wsX2_unmap (wsV RX2 27 RX2 yX2_freeFrames wsX2_freeFrames) := goodIn_app (goodIn_of _ (by decide +kernel)) ggX2_unmap_X2_freeFrames
set_option maxRecDepth 20000 in
theorem ggX2_unmap_X2_endMapping : GoodIn wsX2_unmap wsX2_endMapping := goodIn_r _ [41, 23, 42, 15, 43, 44, 18, 45, 46, 47, 48, 49, 54, 55, 50, 51, 52, 53] (by decide +kernel) (by decide +kernel)
set_option maxRecDepth 20000 in
theorem gX2_unmap_X2_endMapping : GoodIn wsX2_unmap (wsV RX2 52 RX2 yX2_endMapping wsX2_endMapping) := goodIn_app (goodIn_of _ (by decide +kernel)) ggX2_unmap_X2_endMapping
theorem dX2_unmap_0 : decode cX2_unmap 0 = .ok (.aload_n 0, 1) := by decide +kernel
theorem dX2_unmap_1 : decode cX2_unmap 1 = .ok (.iload_n 1, 1) := by decide +kernel
theorem dX2_unmap_2 : decode cX2_unmap 2 = .ok (.iload_n 2, 1) := by decide +kernel
theorem dX2_unmap_3 : decode cX2_unmap 3 = .ok (.invokevirtual 82, 3) := by decide +kernel
theorem dX2_unmap_6 : decode cX2_unmap 6 = .ok (.istore_n 3, 1) := by decide +kernel
theorem dX2_unmap_7 : decode cX2_unmap 7 = .ok (.iload_n 3, 1) := by decide +kernel
theorem dX2_unmap_8 : decode cX2_unmap 8 = .ok (.ifCond .eq 5, 3) := by decide +kernel
theorem dX2_unmap_11 : decode cX2_unmap 11 = .ok (.iload_n 3, 1) := by decide +kernel
theorem dX2_unmap_12 : decode cX2_unmap 12 = .ok (.ireturn, 1) := by decide +kernel
theorem dX2_unmap_13 : decode cX2_unmap 13 = .ok (.aload_n 0, 1) := by decide +kernel
theorem dX2_unmap_14 : decode cX2_unmap 14 = .ok (.invokevirtual 27, 3) := by decide +kernel
theorem dX2_unmap_17 : decode cX2_unmap 17 = .ok (.istore 4, 2) := by decide +kernel
theorem dX2_unmap_19 : decode cX2_unmap 19 = .ok (.aload_n 0, 1) := by decide +kernel
theorem dX2_unmap_20 : decode cX2_unmap 20 = .ok (.aload_n 0, 1) := by decide +kernel
theorem dX2_unmap_21 : decode cX2_unmap 21 = .ok (.getfield 11, 3) := by decide +kernel
theorem dX2_unmap_24 : decode cX2_unmap 24 = .ok (.iload_n 1, 1) := by decide +kernel
theorem dX2_unmap_25 : decode cX2_unmap 25 = .ok (.aaload, 1) := by decide +kernel
theorem dX2_unmap_26 : decode cX2_unmap 26 = .ok (.iload_n 2, 1) := by decide +kernel
theorem dX2_unmap_27 : decode cX2_unmap 27 = .ok (.invokevirtual 52, 3) := by decide +kernel
theorem dX2_unmap_30 : decode cX2_unmap 30 = .ok (.aload_n 0, 1) := by decide +kernel
theorem dX2_unmap_31 : decode cX2_unmap 31 = .ok (.invokevirtual 27, 3) := by decide +kernel
theorem dX2_unmap_34 : decode cX2_unmap 34 = .ok (.iload 4, 2) := by decide +kernel
theorem dX2_unmap_36 : decode cX2_unmap 36 = .ok (.isub, 1) := by decide +kernel
theorem dX2_unmap_37 : decode cX2_unmap 37 = .ok (.ireturn, 1) := by decide +kernel
set_option maxRecDepth 20000 in
theorem ggX2_protect_X2_refusalOfMapped : GoodIn wsX2_protect wsX2_refusalOfMapped := goodIn_r _ [6, 1, 7, 8, 9, 5, 10, 11, 12, 13, 14, 15, 16, 17, 18, 26, 27, 28, 29, 30, 31, 32, 33] (by decide +kernel) (by decide +kernel)
set_option maxRecDepth 20000 in
theorem gX2_protect_X2_refusalOfMapped : GoodIn wsX2_protect (wsV RX2 82 RX2 yX2_refusalOfMapped wsX2_refusalOfMapped) := goodIn_app (goodIn_of _ (by decide +kernel)) ggX2_protect_X2_refusalOfMapped
set_option maxRecDepth 20000 in
theorem ggX2_protect_X0_is : GoodIn wsX2_protect wsX0_is := goodIn_r _ [21, 22, 30, 31, 32, 33] (by decide +kernel) (by decide +kernel)
set_option maxRecDepth 20000 in
theorem gX2_protect_X0_is_n74 : GoodIn wsX2_protect (wsX0_is) := ggX2_protect_X0_is
set_option maxRecDepth 20000 in
theorem ggX2_protect_X0_turn : GoodIn wsX2_protect wsX0_turn := goodIn_r _ [25, 22, 30, 31, 32, 33] (by decide +kernel) (by decide +kernel)
set_option maxRecDepth 20000 in
theorem gX2_protect_X0_turn_n86 : GoodIn wsX2_protect (wsX0_turn) := ggX2_protect_X0_turn
theorem dX2_protect_0 : decode cX2_protect 0 = .ok (.aload_n 0, 1) := by decide +kernel
theorem dX2_protect_1 : decode cX2_protect 1 = .ok (.iload_n 1, 1) := by decide +kernel
theorem dX2_protect_2 : decode cX2_protect 2 = .ok (.iload_n 2, 1) := by decide +kernel
theorem dX2_protect_3 : decode cX2_protect 3 = .ok (.invokevirtual 82, 3) := by decide +kernel
theorem dX2_protect_6 : decode cX2_protect 6 = .ok (.istore 4, 2) := by decide +kernel
theorem dX2_protect_8 : decode cX2_protect 8 = .ok (.iload 4, 2) := by decide +kernel
theorem dX2_protect_10 : decode cX2_protect 10 = .ok (.ifCond .eq 6, 3) := by decide +kernel
theorem dX2_protect_13 : decode cX2_protect 13 = .ok (.iload 4, 2) := by decide +kernel
theorem dX2_protect_15 : decode cX2_protect 15 = .ok (.ireturn, 1) := by decide +kernel
theorem dX2_protect_16 : decode cX2_protect 16 = .ok (.aload_n 0, 1) := by decide +kernel
theorem dX2_protect_17 : decode cX2_protect 17 = .ok (.getfield 11, 3) := by decide +kernel
theorem dX2_protect_20 : decode cX2_protect 20 = .ok (.iload_n 1, 1) := by decide +kernel
theorem dX2_protect_21 : decode cX2_protect 21 = .ok (.aaload, 1) := by decide +kernel
theorem dX2_protect_22 : decode cX2_protect 22 = .ok (.astore 5, 2) := by decide +kernel
theorem dX2_protect_24 : decode cX2_protect 24 = .ok (.aload 5, 2) := by decide +kernel
theorem dX2_protect_26 : decode cX2_protect 26 = .ok (.iconst 1, 1) := by decide +kernel
theorem dX2_protect_27 : decode cX2_protect 27 = .ok (.iload_n 2, 1) := by decide +kernel
theorem dX2_protect_28 : decode cX2_protect 28 = .ok (.invokevirtual 74, 3) := by decide +kernel
theorem dX2_protect_31 : decode cX2_protect 31 = .ok (.iload_n 3, 1) := by decide +kernel
theorem dX2_protect_32 : decode cX2_protect 32 = .ok (.if_icmp .ne 5, 3) := by decide +kernel
theorem dX2_protect_35 : decode cX2_protect 35 = .ok (.iconst 0, 1) := by decide +kernel
theorem dX2_protect_36 : decode cX2_protect 36 = .ok (.ireturn, 1) := by decide +kernel
theorem dX2_protect_37 : decode cX2_protect 37 = .ok (.aload 5, 2) := by decide +kernel
theorem dX2_protect_39 : decode cX2_protect 39 = .ok (.iconst 1, 1) := by decide +kernel
theorem dX2_protect_40 : decode cX2_protect 40 = .ok (.iload_n 2, 1) := by decide +kernel
theorem dX2_protect_41 : decode cX2_protect 41 = .ok (.invokevirtual 86, 3) := by decide +kernel
theorem dX2_protect_44 : decode cX2_protect 44 = .ok (.iconst 1, 1) := by decide +kernel
theorem dX2_protect_45 : decode cX2_protect 45 = .ok (.ireturn, 1) := by decide +kernel
set_option maxRecDepth 20000 in
theorem ggX2_write_X2_refusalOfAddress : GoodIn wsX2_write wsX2_refusalOfAddress := goodIn_r _ [7, 8, 9, 10, 6, 11, 1, 12, 13, 14, 15, 16, 17, 18, 19, 20, 21, 22, 23, 78, 79, 80, 81, 84, 85, 86, 87] (by decide +kernel) (by decide +kernel)
set_option maxRecDepth 20000 in
theorem gX2_write_X2_refusalOfAddress : GoodIn wsX2_write (wsV RX2 90 RX2 yX2_refusalOfAddress wsX2_refusalOfAddress) := goodIn_app (goodIn_of _ (by decide +kernel)) ggX2_write_X2_refusalOfAddress
set_option maxRecDepth 20000 in
theorem ggX2_write_X0_is : GoodIn wsX2_write wsX0_is := goodIn_r _ [26, 27, 84, 85, 86, 87] (by decide +kernel) (by decide +kernel)
set_option maxRecDepth 20000 in
theorem gX2_write_X0_is_n74 : GoodIn wsX2_write (wsX0_is) := ggX2_write_X0_is
set_option maxRecDepth 20000 in
theorem ggX2_write_X2_resolveFault : GoodIn wsX2_write wsX2_resolveFault := goodIn_r _ [31, 2, 32, 33, 34, 35, 36, 6, 37, 1, 38, 39, 40, 41, 42, 43, 20, 44, 45, 23, 46, 47, 48, 49, 50, 51, 52, 53, 54, 27, 55, 56, 57, 58, 59, 60, 61, 62, 63, 64, 65, 66, 67, 68, 69, 70, 71, 72, 73, 74, 75, 76, 77, 84, 85, 86, 87, 78, 79, 80, 81, 82, 83] (by decide +kernel) (by decide +kernel)
set_option maxRecDepth 20000 in
theorem gX2_write_X2_resolveFault : GoodIn wsX2_write (wsV RX2 93 RX2 yX2_resolveFault wsX2_resolveFault) := goodIn_app (goodIn_of _ (by decide +kernel)) ggX2_write_X2_resolveFault
theorem dX2_write_0 : decode cX2_write 0 = .ok (.aload_n 0, 1) := by decide +kernel
theorem dX2_write_1 : decode cX2_write 1 = .ok (.iload_n 1, 1) := by decide +kernel
theorem dX2_write_2 : decode cX2_write 2 = .ok (.iload_n 2, 1) := by decide +kernel
theorem dX2_write_3 : decode cX2_write 3 = .ok (.invokevirtual 90, 3) := by decide +kernel
theorem dX2_write_6 : decode cX2_write 6 = .ok (.istore 4, 2) := by decide +kernel
theorem dX2_write_8 : decode cX2_write 8 = .ok (.iload 4, 2) := by decide +kernel
theorem dX2_write_10 : decode cX2_write 10 = .ok (.ifCond .eq 6, 3) := by decide +kernel
theorem dX2_write_13 : decode cX2_write 13 = .ok (.iload 4, 2) := by decide +kernel
theorem dX2_write_15 : decode cX2_write 15 = .ok (.ireturn, 1) := by decide +kernel
theorem dX2_write_16 : decode cX2_write 16 = .ok (.aload_n 0, 1) := by decide +kernel
theorem dX2_write_17 : decode cX2_write 17 = .ok (.getfield 11, 3) := by decide +kernel
theorem dX2_write_20 : decode cX2_write 20 = .ok (.iload_n 1, 1) := by decide +kernel
theorem dX2_write_21 : decode cX2_write 21 = .ok (.aaload, 1) := by decide +kernel
theorem dX2_write_22 : decode cX2_write 22 = .ok (.astore 5, 2) := by decide +kernel
theorem dX2_write_24 : decode cX2_write 24 = .ok (.iload_n 2, 1) := by decide +kernel
theorem dX2_write_25 : decode cX2_write 25 = .ok (.iconst 4, 1) := by decide +kernel
theorem dX2_write_26 : decode cX2_write 26 = .ok (.idiv, 1) := by decide +kernel
theorem dX2_write_27 : decode cX2_write 27 = .ok (.istore 6, 2) := by decide +kernel
theorem dX2_write_29 : decode cX2_write 29 = .ok (.aload 5, 2) := by decide +kernel
theorem dX2_write_31 : decode cX2_write 31 = .ok (.iconst 1, 1) := by decide +kernel
theorem dX2_write_32 : decode cX2_write 32 = .ok (.iload 6, 2) := by decide +kernel
theorem dX2_write_34 : decode cX2_write 34 = .ok (.invokevirtual 74, 3) := by decide +kernel
theorem dX2_write_37 : decode cX2_write 37 = .ok (.ifCond .ne 6, 3) := by decide +kernel
theorem dX2_write_40 : decode cX2_write 40 = .ok (.bipush (-5), 2) := by decide +kernel
theorem dX2_write_42 : decode cX2_write 42 = .ok (.ireturn, 1) := by decide +kernel
theorem dX2_write_43 : decode cX2_write 43 = .ok (.iconst 0, 1) := by decide +kernel
theorem dX2_write_44 : decode cX2_write 44 = .ok (.istore 7, 2) := by decide +kernel
theorem dX2_write_46 : decode cX2_write 46 = .ok (.aload 5, 2) := by decide +kernel
theorem dX2_write_48 : decode cX2_write 48 = .ok (.iconst 4, 1) := by decide +kernel
theorem dX2_write_49 : decode cX2_write 49 = .ok (.iload 6, 2) := by decide +kernel
theorem dX2_write_51 : decode cX2_write 51 = .ok (.invokevirtual 74, 3) := by decide +kernel
theorem dX2_write_54 : decode cX2_write 54 = .ok (.ifCond .eq 21, 3) := by decide +kernel
theorem dX2_write_57 : decode cX2_write 57 = .ok (.aload_n 0, 1) := by decide +kernel
theorem dX2_write_58 : decode cX2_write 58 = .ok (.aload 5, 2) := by decide +kernel
theorem dX2_write_60 : decode cX2_write 60 = .ok (.iload 6, 2) := by decide +kernel
theorem dX2_write_62 : decode cX2_write 62 = .ok (.invokevirtual 93, 3) := by decide +kernel
theorem dX2_write_65 : decode cX2_write 65 = .ok (.istore 7, 2) := by decide +kernel
theorem dX2_write_67 : decode cX2_write 67 = .ok (.iload 7, 2) := by decide +kernel
theorem dX2_write_69 : decode cX2_write 69 = .ok (.ifCond .ge 6, 3) := by decide +kernel
theorem dX2_write_72 : decode cX2_write 72 = .ok (.iload 7, 2) := by decide +kernel
theorem dX2_write_74 : decode cX2_write 74 = .ok (.ireturn, 1) := by decide +kernel
theorem dX2_write_75 : decode cX2_write 75 = .ok (.aload_n 0, 1) := by decide +kernel
theorem dX2_write_76 : decode cX2_write 76 = .ok (.getfield 19, 3) := by decide +kernel
theorem dX2_write_79 : decode cX2_write 79 = .ok (.getfield 97, 3) := by decide +kernel
theorem dX2_write_82 : decode cX2_write 82 = .ok (.aload 5, 2) := by decide +kernel
theorem dX2_write_84 : decode cX2_write 84 = .ok (.getfield 78, 3) := by decide +kernel
theorem dX2_write_87 : decode cX2_write 87 = .ok (.iload 6, 2) := by decide +kernel
theorem dX2_write_89 : decode cX2_write 89 = .ok (.iaload, 1) := by decide +kernel
theorem dX2_write_90 : decode cX2_write 90 = .ok (.iconst 4, 1) := by decide +kernel
theorem dX2_write_91 : decode cX2_write 91 = .ok (.imul, 1) := by decide +kernel
theorem dX2_write_92 : decode cX2_write 92 = .ok (.iload_n 2, 1) := by decide +kernel
theorem dX2_write_93 : decode cX2_write 93 = .ok (.iconst 4, 1) := by decide +kernel
theorem dX2_write_94 : decode cX2_write 94 = .ok (.irem, 1) := by decide +kernel
theorem dX2_write_95 : decode cX2_write 95 = .ok (.iadd, 1) := by decide +kernel
theorem dX2_write_96 : decode cX2_write 96 = .ok (.iload_n 3, 1) := by decide +kernel
theorem dX2_write_97 : decode cX2_write 97 = .ok (.iastore, 1) := by decide +kernel
theorem dX2_write_98 : decode cX2_write 98 = .ok (.iload 7, 2) := by decide +kernel
theorem dX2_write_100 : decode cX2_write 100 = .ok (.ireturn, 1) := by decide +kernel
set_option maxRecDepth 20000 in
theorem ggX2_read_X2_refusalOfAddress : GoodIn wsX2_read wsX2_refusalOfAddress := goodIn_r _ [8, 9, 10, 11, 7, 12, 2, 13, 14, 15, 16, 17, 18, 19, 20, 21, 22, 23, 24, 25, 26, 27, 28, 29, 30, 31, 32] (by decide +kernel) (by decide +kernel)
set_option maxRecDepth 20000 in
theorem gX2_read_X2_refusalOfAddress : GoodIn wsX2_read (wsV RX2 90 RX2 yX2_refusalOfAddress wsX2_refusalOfAddress) := goodIn_app (goodIn_of _ (by decide +kernel)) ggX2_read_X2_refusalOfAddress
theorem dX2_read_0 : decode cX2_read 0 = .ok (.aload_n 0, 1) := by decide +kernel
theorem dX2_read_1 : decode cX2_read 1 = .ok (.iload_n 1, 1) := by decide +kernel
theorem dX2_read_2 : decode cX2_read 2 = .ok (.iload_n 2, 1) := by decide +kernel
theorem dX2_read_3 : decode cX2_read 3 = .ok (.invokevirtual 90, 3) := by decide +kernel
theorem dX2_read_6 : decode cX2_read 6 = .ok (.ifCond .eq 7, 3) := by decide +kernel
theorem dX2_read_9 : decode cX2_read 9 = .ok (.ldc2_w 100, 3) := by decide +kernel
theorem dX2_read_12 : decode cX2_read 12 = .ok (.lreturn, 1) := by decide +kernel
theorem dX2_read_13 : decode cX2_read 13 = .ok (.aload_n 0, 1) := by decide +kernel
theorem dX2_read_14 : decode cX2_read 14 = .ok (.getfield 11, 3) := by decide +kernel
theorem dX2_read_17 : decode cX2_read 17 = .ok (.iload_n 1, 1) := by decide +kernel
theorem dX2_read_18 : decode cX2_read 18 = .ok (.aaload, 1) := by decide +kernel
theorem dX2_read_19 : decode cX2_read 19 = .ok (.getfield 78, 3) := by decide +kernel
theorem dX2_read_22 : decode cX2_read 22 = .ok (.iload_n 2, 1) := by decide +kernel
theorem dX2_read_23 : decode cX2_read 23 = .ok (.iconst 4, 1) := by decide +kernel
theorem dX2_read_24 : decode cX2_read 24 = .ok (.idiv, 1) := by decide +kernel
theorem dX2_read_25 : decode cX2_read 25 = .ok (.iaload, 1) := by decide +kernel
theorem dX2_read_26 : decode cX2_read 26 = .ok (.istore_n 3, 1) := by decide +kernel
theorem dX2_read_27 : decode cX2_read 27 = .ok (.aload_n 0, 1) := by decide +kernel
theorem dX2_read_28 : decode cX2_read 28 = .ok (.getfield 19, 3) := by decide +kernel
theorem dX2_read_31 : decode cX2_read 31 = .ok (.getfield 97, 3) := by decide +kernel
theorem dX2_read_34 : decode cX2_read 34 = .ok (.iload_n 3, 1) := by decide +kernel
theorem dX2_read_35 : decode cX2_read 35 = .ok (.iconst 4, 1) := by decide +kernel
theorem dX2_read_36 : decode cX2_read 36 = .ok (.imul, 1) := by decide +kernel
theorem dX2_read_37 : decode cX2_read 37 = .ok (.iload_n 2, 1) := by decide +kernel
theorem dX2_read_38 : decode cX2_read 38 = .ok (.iconst 4, 1) := by decide +kernel
theorem dX2_read_39 : decode cX2_read 39 = .ok (.irem, 1) := by decide +kernel
theorem dX2_read_40 : decode cX2_read 40 = .ok (.iadd, 1) := by decide +kernel
theorem dX2_read_41 : decode cX2_read 41 = .ok (.iaload, 1) := by decide +kernel
theorem dX2_read_42 : decode cX2_read 42 = .ok (.i2l, 1) := by decide +kernel
theorem dX2_read_43 : decode cX2_read 43 = .ok (.lreturn, 1) := by decide +kernel
set_option maxRecDepth 20000 in
theorem ggX2_free_X2_freeFrames : GoodIn wsX2_free wsX2_freeFrames := goodIn_r _ [5, 6, 7, 8, 9, 10, 11, 12, 13, 14, 15, 16, 17, 18, 19, 20, 21, 22, 23, 24, 25, 26, 27, 28, 29, 30, 31, 32, 33] (by decide +kernel) (by decide +kernel)
set_option maxRecDepth 20000 in
theorem gX2_free_X2_freeFrames : GoodIn wsX2_free (wsV RX2 27 RX2 yX2_freeFrames wsX2_freeFrames) := goodIn_app (goodIn_of _ (by decide +kernel)) ggX2_free_X2_freeFrames
theorem dX2_free_0 : decode cX2_free 0 = .ok (.aload_n 0, 1) := by decide +kernel
theorem dX2_free_1 : decode cX2_free 1 = .ok (.invokevirtual 27, 3) := by decide +kernel
theorem dX2_free_4 : decode cX2_free 4 = .ok (.ireturn, 1) := by decide +kernel
set_option maxRecDepth 20000 in
theorem ggX2_tables_X2_isRunning : GoodIn wsX2_tables wsX2_isRunning := goodIn_r _ [6, 1, 18, 19, 20, 21, 22, 23, 24, 25] (by decide +kernel) (by decide +kernel)
set_option maxRecDepth 20000 in
theorem gX2_tables_X2_isRunning : GoodIn wsX2_tables (wsV RX2 38 RX2 yX2_isRunning wsX2_isRunning) := goodIn_app (goodIn_of _ (by decide +kernel)) ggX2_tables_X2_isRunning
set_option maxRecDepth 20000 in
theorem ggX2_tables_X0_tableCount : GoodIn wsX2_tables wsX0_tableCount := goodIn_r _ [10, 11, 12, 13, 8, 14, 15, 16, 17, 22, 23, 24, 25] (by decide +kernel) (by decide +kernel)
set_option maxRecDepth 20000 in
theorem gX2_tables_X0_tableCount_n42 : GoodIn wsX2_tables (wsX0_tableCount) := ggX2_tables_X0_tableCount
theorem dX2_tables_0 : decode cX2_tables 0 = .ok (.aload_n 0, 1) := by decide +kernel
theorem dX2_tables_1 : decode cX2_tables 1 = .ok (.iload_n 1, 1) := by decide +kernel
theorem dX2_tables_2 : decode cX2_tables 2 = .ok (.invokevirtual 38, 3) := by decide +kernel
theorem dX2_tables_5 : decode cX2_tables 5 = .ok (.ifCond .eq 15, 3) := by decide +kernel
theorem dX2_tables_8 : decode cX2_tables 8 = .ok (.aload_n 0, 1) := by decide +kernel
theorem dX2_tables_9 : decode cX2_tables 9 = .ok (.getfield 11, 3) := by decide +kernel
theorem dX2_tables_12 : decode cX2_tables 12 = .ok (.iload_n 1, 1) := by decide +kernel
theorem dX2_tables_13 : decode cX2_tables 13 = .ok (.aaload, 1) := by decide +kernel
theorem dX2_tables_14 : decode cX2_tables 14 = .ok (.invokevirtual 42, 3) := by decide +kernel
theorem dX2_tables_17 : decode cX2_tables 17 = .ok (.goto 4, 3) := by decide +kernel
theorem dX2_tables_20 : decode cX2_tables 20 = .ok (.iconst (-1), 1) := by decide +kernel
theorem dX2_tables_21 : decode cX2_tables 21 = .ok (.ireturn, 1) := by decide +kernel
set_option maxRecDepth 20000 in
theorem ggX2_pages_X2_isRunning : GoodIn wsX2_pages wsX2_isRunning := goodIn_r _ [6, 1, 14, 15, 16, 17, 18, 19, 20, 21] (by decide +kernel) (by decide +kernel)
set_option maxRecDepth 20000 in
theorem gX2_pages_X2_isRunning : GoodIn wsX2_pages (wsV RX2 38 RX2 yX2_isRunning wsX2_isRunning) := goodIn_app (goodIn_of _ (by decide +kernel)) ggX2_pages_X2_isRunning
set_option maxRecDepth 20000 in
theorem ggX2_pages_J13_bitCount_95d88 : GoodIn wsX2_pages wsJ13_bitCount_95d88 := goodIn_r _ [10, 11, 12, 13] (by decide +kernel) (by decide +kernel)
set_option maxRecDepth 20000 in
theorem gX2_pages_J13_bitCount_95d88 : GoodIn wsX2_pages (va_wsS RX2 106 yJ13_bitCount_95d88 wsJ13_bitCount_95d88) := goodIn_app (goodIn_of _ (by decide +kernel)) ggX2_pages_J13_bitCount_95d88
theorem dX2_pages_0 : decode cX2_pages 0 = .ok (.aload_n 0, 1) := by decide +kernel
theorem dX2_pages_1 : decode cX2_pages 1 = .ok (.iload_n 1, 1) := by decide +kernel
theorem dX2_pages_2 : decode cX2_pages 2 = .ok (.invokevirtual 38, 3) := by decide +kernel
theorem dX2_pages_5 : decode cX2_pages 5 = .ok (.ifCond .eq 18, 3) := by decide +kernel
theorem dX2_pages_8 : decode cX2_pages 8 = .ok (.aload_n 0, 1) := by decide +kernel
theorem dX2_pages_9 : decode cX2_pages 9 = .ok (.getfield 11, 3) := by decide +kernel
theorem dX2_pages_12 : decode cX2_pages 12 = .ok (.iload_n 1, 1) := by decide +kernel
theorem dX2_pages_13 : decode cX2_pages 13 = .ok (.aaload, 1) := by decide +kernel
theorem dX2_pages_14 : decode cX2_pages 14 = .ok (.getfield 102, 3) := by decide +kernel
theorem dX2_pages_17 : decode cX2_pages 17 = .ok (.invokestatic 106, 3) := by decide +kernel
theorem dX2_pages_20 : decode cX2_pages 20 = .ok (.goto 4, 3) := by decide +kernel
theorem dX2_pages_23 : decode cX2_pages 23 = .ok (.iconst (-1), 1) := by decide +kernel
theorem dX2_pages_24 : decode cX2_pages 24 = .ok (.ireturn, 1) := by decide +kernel
set_option maxRecDepth 20000 in
theorem ggX2_count_X2_refusalOfMapped : GoodIn wsX2_count wsX2_refusalOfMapped := goodIn_r _ [7, 2, 8, 9, 10, 6, 11, 12, 13, 14, 15, 16, 17, 18, 19, 20, 21, 22, 23, 26, 27, 28, 29] (by decide +kernel) (by decide +kernel)
set_option maxRecDepth 20000 in
theorem gX2_count_X2_refusalOfMapped : GoodIn wsX2_count (wsV RX2 82 RX2 yX2_refusalOfMapped wsX2_refusalOfMapped) := goodIn_app (goodIn_of _ (by decide +kernel)) ggX2_count_X2_refusalOfMapped
theorem dX2_count_0 : decode cX2_count 0 = .ok (.aload_n 0, 1) := by decide +kernel
theorem dX2_count_1 : decode cX2_count 1 = .ok (.iload_n 1, 1) := by decide +kernel
theorem dX2_count_2 : decode cX2_count 2 = .ok (.iload_n 2, 1) := by decide +kernel
theorem dX2_count_3 : decode cX2_count 3 = .ok (.invokevirtual 82, 3) := by decide +kernel
theorem dX2_count_6 : decode cX2_count 6 = .ok (.istore_n 3, 1) := by decide +kernel
theorem dX2_count_7 : decode cX2_count 7 = .ok (.iload_n 3, 1) := by decide +kernel
theorem dX2_count_8 : decode cX2_count 8 = .ok (.ifCond .eq 5, 3) := by decide +kernel
theorem dX2_count_11 : decode cX2_count 11 = .ok (.iload_n 3, 1) := by decide +kernel
theorem dX2_count_12 : decode cX2_count 12 = .ok (.ireturn, 1) := by decide +kernel
theorem dX2_count_13 : decode cX2_count 13 = .ok (.aload_n 0, 1) := by decide +kernel
theorem dX2_count_14 : decode cX2_count 14 = .ok (.getfield 19, 3) := by decide +kernel
theorem dX2_count_17 : decode cX2_count 17 = .ok (.getfield 111, 3) := by decide +kernel
theorem dX2_count_20 : decode cX2_count 20 = .ok (.aload_n 0, 1) := by decide +kernel
theorem dX2_count_21 : decode cX2_count 21 = .ok (.getfield 11, 3) := by decide +kernel
theorem dX2_count_24 : decode cX2_count 24 = .ok (.iload_n 1, 1) := by decide +kernel
theorem dX2_count_25 : decode cX2_count 25 = .ok (.aaload, 1) := by decide +kernel
theorem dX2_count_26 : decode cX2_count 26 = .ok (.getfield 78, 3) := by decide +kernel
theorem dX2_count_29 : decode cX2_count 29 = .ok (.iload_n 2, 1) := by decide +kernel
theorem dX2_count_30 : decode cX2_count 30 = .ok (.iaload, 1) := by decide +kernel
theorem dX2_count_31 : decode cX2_count 31 = .ok (.iaload, 1) := by decide +kernel
theorem dX2_count_32 : decode cX2_count 32 = .ok (.ireturn, 1) := by decide +kernel
set_option maxRecDepth 20000 in
theorem ggX2_mapping_X2_refusalOfMapped : GoodIn wsX2_mapping wsX2_refusalOfMapped := goodIn_r _ [6, 1, 7, 8, 9, 5, 10, 11, 12, 13, 14, 15, 16, 17, 18, 19, 20, 21, 22, 23, 24, 25, 26] (by decide +kernel) (by decide +kernel)
set_option maxRecDepth 20000 in
theorem gX2_mapping_X2_refusalOfMapped : GoodIn wsX2_mapping (wsV RX2 82 RX2 yX2_refusalOfMapped wsX2_refusalOfMapped) := goodIn_app (goodIn_of _ (by decide +kernel)) ggX2_mapping_X2_refusalOfMapped
theorem dX2_mapping_0 : decode cX2_mapping 0 = .ok (.aload_n 0, 1) := by decide +kernel
theorem dX2_mapping_1 : decode cX2_mapping 1 = .ok (.iload_n 1, 1) := by decide +kernel
theorem dX2_mapping_2 : decode cX2_mapping 2 = .ok (.iload_n 2, 1) := by decide +kernel
theorem dX2_mapping_3 : decode cX2_mapping 3 = .ok (.invokevirtual 82, 3) := by decide +kernel
theorem dX2_mapping_6 : decode cX2_mapping 6 = .ok (.istore_n 3, 1) := by decide +kernel
theorem dX2_mapping_7 : decode cX2_mapping 7 = .ok (.iload_n 3, 1) := by decide +kernel
theorem dX2_mapping_8 : decode cX2_mapping 8 = .ok (.ifCond .eq 5, 3) := by decide +kernel
theorem dX2_mapping_11 : decode cX2_mapping 11 = .ok (.iload_n 3, 1) := by decide +kernel
theorem dX2_mapping_12 : decode cX2_mapping 12 = .ok (.ireturn, 1) := by decide +kernel
theorem dX2_mapping_13 : decode cX2_mapping 13 = .ok (.aload_n 0, 1) := by decide +kernel
theorem dX2_mapping_14 : decode cX2_mapping 14 = .ok (.getfield 11, 3) := by decide +kernel
theorem dX2_mapping_17 : decode cX2_mapping 17 = .ok (.iload_n 1, 1) := by decide +kernel
theorem dX2_mapping_18 : decode cX2_mapping 18 = .ok (.aaload, 1) := by decide +kernel
theorem dX2_mapping_19 : decode cX2_mapping 19 = .ok (.getfield 114, 3) := by decide +kernel
theorem dX2_mapping_22 : decode cX2_mapping 22 = .ok (.iload_n 2, 1) := by decide +kernel
theorem dX2_mapping_23 : decode cX2_mapping 23 = .ok (.iaload, 1) := by decide +kernel
theorem dX2_mapping_24 : decode cX2_mapping 24 = .ok (.ireturn, 1) := by decide +kernel
set_option maxRecDepth 20000 in
theorem ggX2_twin_X2_isRunning : GoodIn wsX2_twin wsX2_isRunning := goodIn_r _ [6, 1, 19, 20, 21, 22, 23, 24, 25, 26] (by decide +kernel) (by decide +kernel)
set_option maxRecDepth 20000 in
theorem gX2_twin_X2_isRunning : GoodIn wsX2_twin (wsV RX2 38 RX2 yX2_isRunning wsX2_isRunning) := goodIn_app (goodIn_of _ (by decide +kernel)) ggX2_twin_X2_isRunning
set_option maxRecDepth 20000 in
theorem ggX2_twin_X2_refusalOfMapped : GoodIn wsX2_twin wsX2_refusalOfMapped := goodIn_r _ [10, 1, 2, 3, 4, 5, 6, 11, 12, 13, 14, 15, 16, 17, 18, 19, 20, 21, 22, 23, 24, 25, 26] (by decide +kernel) (by decide +kernel)
set_option maxRecDepth 20000 in
theorem gX2_twin_X2_refusalOfMapped : GoodIn wsX2_twin (wsV RX2 82 RX2 yX2_refusalOfMapped wsX2_refusalOfMapped) := goodIn_app (goodIn_of _ (by decide +kernel)) ggX2_twin_X2_refusalOfMapped
set_option maxRecDepth 20000 in
theorem ggX2_twin_X0_has : GoodIn wsX2_twin wsX0_has := goodIn_r _ [17, 18, 23, 24, 25, 26] (by decide +kernel) (by decide +kernel)
set_option maxRecDepth 20000 in
theorem gX2_twin_X0_has_n45 : GoodIn wsX2_twin (wsX0_has) := ggX2_twin_X0_has
theorem dX2_twin_0 : decode cX2_twin 0 = .ok (.aload_n 0, 1) := by decide +kernel
theorem dX2_twin_1 : decode cX2_twin 1 = .ok (.iload_n 3, 1) := by decide +kernel
theorem dX2_twin_2 : decode cX2_twin 2 = .ok (.invokevirtual 38, 3) := by decide +kernel
theorem dX2_twin_5 : decode cX2_twin 5 = .ok (.ifCond .ne 5, 3) := by decide +kernel
theorem dX2_twin_8 : decode cX2_twin 8 = .ok (.iconst (-1), 1) := by decide +kernel
theorem dX2_twin_9 : decode cX2_twin 9 = .ok (.ireturn, 1) := by decide +kernel
theorem dX2_twin_10 : decode cX2_twin 10 = .ok (.aload_n 0, 1) := by decide +kernel
theorem dX2_twin_11 : decode cX2_twin 11 = .ok (.iload_n 1, 1) := by decide +kernel
theorem dX2_twin_12 : decode cX2_twin 12 = .ok (.iload_n 2, 1) := by decide +kernel
theorem dX2_twin_13 : decode cX2_twin 13 = .ok (.invokevirtual 82, 3) := by decide +kernel
theorem dX2_twin_16 : decode cX2_twin 16 = .ok (.istore 5, 2) := by decide +kernel
theorem dX2_twin_18 : decode cX2_twin 18 = .ok (.iload 5, 2) := by decide +kernel
theorem dX2_twin_20 : decode cX2_twin 20 = .ok (.ifCond .eq 6, 3) := by decide +kernel
theorem dX2_twin_23 : decode cX2_twin 23 = .ok (.iload 5, 2) := by decide +kernel
theorem dX2_twin_25 : decode cX2_twin 25 = .ok (.ireturn, 1) := by decide +kernel
theorem dX2_twin_26 : decode cX2_twin 26 = .ok (.aload_n 0, 1) := by decide +kernel
theorem dX2_twin_27 : decode cX2_twin 27 = .ok (.getfield 11, 3) := by decide +kernel
theorem dX2_twin_30 : decode cX2_twin 30 = .ok (.iload_n 1, 1) := by decide +kernel
theorem dX2_twin_31 : decode cX2_twin 31 = .ok (.aaload, 1) := by decide +kernel
theorem dX2_twin_32 : decode cX2_twin 32 = .ok (.getfield 78, 3) := by decide +kernel
theorem dX2_twin_35 : decode cX2_twin 35 = .ok (.iload_n 2, 1) := by decide +kernel
theorem dX2_twin_36 : decode cX2_twin 36 = .ok (.iaload, 1) := by decide +kernel
theorem dX2_twin_37 : decode cX2_twin 37 = .ok (.istore 6, 2) := by decide +kernel
theorem dX2_twin_39 : decode cX2_twin 39 = .ok (.aload_n 0, 1) := by decide +kernel
theorem dX2_twin_40 : decode cX2_twin 40 = .ok (.getfield 11, 3) := by decide +kernel
theorem dX2_twin_43 : decode cX2_twin 43 = .ok (.iload_n 3, 1) := by decide +kernel
theorem dX2_twin_44 : decode cX2_twin 44 = .ok (.aaload, 1) := by decide +kernel
theorem dX2_twin_45 : decode cX2_twin 45 = .ok (.astore 7, 2) := by decide +kernel
theorem dX2_twin_47 : decode cX2_twin 47 = .ok (.iconst 0, 1) := by decide +kernel
theorem dX2_twin_48 : decode cX2_twin 48 = .ok (.istore 8, 2) := by decide +kernel
theorem dX2_twin_50 : decode cX2_twin 50 = .ok (.iload 8, 2) := by decide +kernel
theorem dX2_twin_52 : decode cX2_twin 52 = .ok (.bipush 64, 2) := by decide +kernel
theorem dX2_twin_54 : decode cX2_twin 54 = .ok (.if_icmp .ge 42, 3) := by decide +kernel
theorem dX2_twin_57 : decode cX2_twin 57 = .ok (.iload 8, 2) := by decide +kernel
theorem dX2_twin_59 : decode cX2_twin 59 = .ok (.iload 4, 2) := by decide +kernel
theorem dX2_twin_61 : decode cX2_twin 61 = .ok (.if_icmp .le 29, 3) := by decide +kernel
theorem dX2_twin_64 : decode cX2_twin 64 = .ok (.aload 7, 2) := by decide +kernel
theorem dX2_twin_66 : decode cX2_twin 66 = .ok (.iload 8, 2) := by decide +kernel
theorem dX2_twin_68 : decode cX2_twin 68 = .ok (.invokevirtual 45, 3) := by decide +kernel
theorem dX2_twin_71 : decode cX2_twin 71 = .ok (.ifCond .eq 19, 3) := by decide +kernel
theorem dX2_twin_74 : decode cX2_twin 74 = .ok (.aload 7, 2) := by decide +kernel
theorem dX2_twin_76 : decode cX2_twin 76 = .ok (.getfield 78, 3) := by decide +kernel
theorem dX2_twin_79 : decode cX2_twin 79 = .ok (.iload 8, 2) := by decide +kernel
theorem dX2_twin_81 : decode cX2_twin 81 = .ok (.iaload, 1) := by decide +kernel
theorem dX2_twin_82 : decode cX2_twin 82 = .ok (.iload 6, 2) := by decide +kernel
theorem dX2_twin_84 : decode cX2_twin 84 = .ok (.if_icmp .ne 6, 3) := by decide +kernel
theorem dX2_twin_87 : decode cX2_twin 87 = .ok (.iload 8, 2) := by decide +kernel
theorem dX2_twin_89 : decode cX2_twin 89 = .ok (.ireturn, 1) := by decide +kernel
theorem dX2_twin_90 : decode cX2_twin 90 = .ok (.iinc 8 1, 3) := by decide +kernel
theorem dX2_twin_93 : decode cX2_twin 93 = .ok (.goto (-43), 3) := by decide +kernel
theorem dX2_twin_96 : decode cX2_twin 96 = .ok (.bipush 64, 2) := by decide +kernel
theorem dX2_twin_98 : decode cX2_twin 98 = .ok (.ireturn, 1) := by decide +kernel
theorem dX2_running_0 : decode cX2_running 0 = .ok (.iconst 0, 1) := by decide +kernel
theorem dX2_running_1 : decode cX2_running 1 = .ok (.istore_n 1, 1) := by decide +kernel
theorem dX2_running_2 : decode cX2_running 2 = .ok (.iconst 0, 1) := by decide +kernel
theorem dX2_running_3 : decode cX2_running 3 = .ok (.istore_n 2, 1) := by decide +kernel
theorem dX2_running_4 : decode cX2_running 4 = .ok (.iload_n 2, 1) := by decide +kernel
theorem dX2_running_5 : decode cX2_running 5 = .ok (.iconst 5, 1) := by decide +kernel
theorem dX2_running_6 : decode cX2_running 6 = .ok (.if_icmp .ge 27, 3) := by decide +kernel
theorem dX2_running_9 : decode cX2_running 9 = .ok (.aload_n 0, 1) := by decide +kernel
theorem dX2_running_10 : decode cX2_running 10 = .ok (.getfield 11, 3) := by decide +kernel
theorem dX2_running_13 : decode cX2_running 13 = .ok (.iload_n 2, 1) := by decide +kernel
theorem dX2_running_14 : decode cX2_running 14 = .ok (.aaload, 1) := by decide +kernel
theorem dX2_running_15 : decode cX2_running 15 = .ok (.getfield 34, 3) := by decide +kernel
theorem dX2_running_18 : decode cX2_running 18 = .ok (.ifCond .eq 9, 3) := by decide +kernel
theorem dX2_running_21 : decode cX2_running 21 = .ok (.iload_n 1, 1) := by decide +kernel
theorem dX2_running_22 : decode cX2_running 22 = .ok (.iconst 1, 1) := by decide +kernel
theorem dX2_running_23 : decode cX2_running 23 = .ok (.iload_n 2, 1) := by decide +kernel
theorem dX2_running_24 : decode cX2_running 24 = .ok (.ishl, 1) := by decide +kernel
theorem dX2_running_25 : decode cX2_running 25 = .ok (.iadd, 1) := by decide +kernel
theorem dX2_running_26 : decode cX2_running 26 = .ok (.istore_n 1, 1) := by decide +kernel
theorem dX2_running_27 : decode cX2_running 27 = .ok (.iinc 2 1, 3) := by decide +kernel
theorem dX2_running_30 : decode cX2_running 30 = .ok (.goto (-26), 3) := by decide +kernel
theorem dX2_running_33 : decode cX2_running 33 = .ok (.iload_n 1, 1) := by decide +kernel
theorem dX2_running_34 : decode cX2_running 34 = .ok (.ireturn, 1) := by decide +kernel
theorem dX2_faults_0 : decode cX2_faults 0 = .ok (.iload_n 1, 1) := by decide +kernel
theorem dX2_faults_1 : decode cX2_faults 1 = .ok (.ifCond .eq 10, 3) := by decide +kernel
theorem dX2_faults_4 : decode cX2_faults 4 = .ok (.aload_n 0, 1) := by decide +kernel
theorem dX2_faults_5 : decode cX2_faults 5 = .ok (.getfield 117, 3) := by decide +kernel
theorem dX2_faults_8 : decode cX2_faults 8 = .ok (.goto 7, 3) := by decide +kernel
theorem dX2_faults_11 : decode cX2_faults 11 = .ok (.aload_n 0, 1) := by decide +kernel
theorem dX2_faults_12 : decode cX2_faults 12 = .ok (.getfield 121, 3) := by decide +kernel
theorem dX2_faults_15 : decode cX2_faults 15 = .ok (.ireturn, 1) := by decide +kernel
theorem dX2_isRunning_0 : decode cX2_isRunning 0 = .ok (.iload_n 1, 1) := by decide +kernel
theorem dX2_isRunning_1 : decode cX2_isRunning 1 = .ok (.ifCond .lt 24, 3) := by decide +kernel
theorem dX2_isRunning_4 : decode cX2_isRunning 4 = .ok (.iload_n 1, 1) := by decide +kernel
theorem dX2_isRunning_5 : decode cX2_isRunning 5 = .ok (.iconst 5, 1) := by decide +kernel
theorem dX2_isRunning_6 : decode cX2_isRunning 6 = .ok (.if_icmp .ge 19, 3) := by decide +kernel
theorem dX2_isRunning_9 : decode cX2_isRunning 9 = .ok (.aload_n 0, 1) := by decide +kernel
theorem dX2_isRunning_10 : decode cX2_isRunning 10 = .ok (.getfield 11, 3) := by decide +kernel
theorem dX2_isRunning_13 : decode cX2_isRunning 13 = .ok (.iload_n 1, 1) := by decide +kernel
theorem dX2_isRunning_14 : decode cX2_isRunning 14 = .ok (.aaload, 1) := by decide +kernel
theorem dX2_isRunning_15 : decode cX2_isRunning 15 = .ok (.getfield 34, 3) := by decide +kernel
theorem dX2_isRunning_18 : decode cX2_isRunning 18 = .ok (.ifCond .eq 7, 3) := by decide +kernel
theorem dX2_isRunning_21 : decode cX2_isRunning 21 = .ok (.iconst 1, 1) := by decide +kernel
theorem dX2_isRunning_22 : decode cX2_isRunning 22 = .ok (.goto 4, 3) := by decide +kernel
theorem dX2_isRunning_25 : decode cX2_isRunning 25 = .ok (.iconst 0, 1) := by decide +kernel
theorem dX2_isRunning_26 : decode cX2_isRunning 26 = .ok (.ireturn, 1) := by decide +kernel
theorem dX2_isPage_0 : decode cX2_isPage 0 = .ok (.iload_n 0, 1) := by decide +kernel
theorem dX2_isPage_1 : decode cX2_isPage 1 = .ok (.ifCond .lt 13, 3) := by decide +kernel
theorem dX2_isPage_4 : decode cX2_isPage 4 = .ok (.iload_n 0, 1) := by decide +kernel
theorem dX2_isPage_5 : decode cX2_isPage 5 = .ok (.bipush 64, 2) := by decide +kernel
theorem dX2_isPage_7 : decode cX2_isPage 7 = .ok (.if_icmp .ge 7, 3) := by decide +kernel
theorem dX2_isPage_10 : decode cX2_isPage 10 = .ok (.iconst 1, 1) := by decide +kernel
theorem dX2_isPage_11 : decode cX2_isPage 11 = .ok (.goto 4, 3) := by decide +kernel
theorem dX2_isPage_14 : decode cX2_isPage 14 = .ok (.iconst 0, 1) := by decide +kernel
theorem dX2_isPage_15 : decode cX2_isPage 15 = .ok (.ireturn, 1) := by decide +kernel
set_option maxRecDepth 20000 in
theorem ggX2_refusalOfMapped_X2_isRunning : GoodIn wsX2_refusalOfMapped wsX2_isRunning := goodIn_r _ [6, 1, 15, 16, 17, 18, 19, 20, 21, 22] (by decide +kernel) (by decide +kernel)
set_option maxRecDepth 20000 in
theorem gX2_refusalOfMapped_X2_isRunning : GoodIn wsX2_refusalOfMapped (wsV RX2 38 RX2 yX2_isRunning wsX2_isRunning) := goodIn_app (goodIn_of _ (by decide +kernel)) ggX2_refusalOfMapped_X2_isRunning
set_option maxRecDepth 20000 in
theorem ggX2_refusalOfMapped_X2_isPage : GoodIn wsX2_refusalOfMapped wsX2_isPage := goodIn_r _ [9] (by decide +kernel) (by decide +kernel)
set_option maxRecDepth 20000 in
theorem gX2_refusalOfMapped_X2_isPage : GoodIn wsX2_refusalOfMapped (va_wsS RX2 56 yX2_isPage wsX2_isPage) := goodIn_app (goodIn_of _ (by decide +kernel)) ggX2_refusalOfMapped_X2_isPage
set_option maxRecDepth 20000 in
theorem ggX2_refusalOfMapped_X0_has : GoodIn wsX2_refusalOfMapped wsX0_has := goodIn_r _ [13, 14, 19, 20, 21, 22] (by decide +kernel) (by decide +kernel)
set_option maxRecDepth 20000 in
theorem gX2_refusalOfMapped_X0_has_n45 : GoodIn wsX2_refusalOfMapped (wsX0_has) := ggX2_refusalOfMapped_X0_has
theorem dX2_refusalOfMapped_0 : decode cX2_refusalOfMapped 0 = .ok (.aload_n 0, 1) := by decide +kernel
theorem dX2_refusalOfMapped_1 : decode cX2_refusalOfMapped 1 = .ok (.iload_n 1, 1) := by decide +kernel
theorem dX2_refusalOfMapped_2 : decode cX2_refusalOfMapped 2 = .ok (.invokevirtual 38, 3) := by decide +kernel
theorem dX2_refusalOfMapped_5 : decode cX2_refusalOfMapped 5 = .ok (.ifCond .ne 5, 3) := by decide +kernel
theorem dX2_refusalOfMapped_8 : decode cX2_refusalOfMapped 8 = .ok (.iconst (-1), 1) := by decide +kernel
theorem dX2_refusalOfMapped_9 : decode cX2_refusalOfMapped 9 = .ok (.ireturn, 1) := by decide +kernel
theorem dX2_refusalOfMapped_10 : decode cX2_refusalOfMapped 10 = .ok (.iload_n 2, 1) := by decide +kernel
theorem dX2_refusalOfMapped_11 : decode cX2_refusalOfMapped 11 = .ok (.invokestatic 56, 3) := by decide +kernel
theorem dX2_refusalOfMapped_14 : decode cX2_refusalOfMapped 14 = .ok (.ifCond .ne 6, 3) := by decide +kernel
theorem dX2_refusalOfMapped_17 : decode cX2_refusalOfMapped 17 = .ok (.bipush (-2), 2) := by decide +kernel
theorem dX2_refusalOfMapped_19 : decode cX2_refusalOfMapped 19 = .ok (.ireturn, 1) := by decide +kernel
theorem dX2_refusalOfMapped_20 : decode cX2_refusalOfMapped 20 = .ok (.aload_n 0, 1) := by decide +kernel
theorem dX2_refusalOfMapped_21 : decode cX2_refusalOfMapped 21 = .ok (.getfield 11, 3) := by decide +kernel
theorem dX2_refusalOfMapped_24 : decode cX2_refusalOfMapped 24 = .ok (.iload_n 1, 1) := by decide +kernel
theorem dX2_refusalOfMapped_25 : decode cX2_refusalOfMapped 25 = .ok (.aaload, 1) := by decide +kernel
theorem dX2_refusalOfMapped_26 : decode cX2_refusalOfMapped 26 = .ok (.iload_n 2, 1) := by decide +kernel
theorem dX2_refusalOfMapped_27 : decode cX2_refusalOfMapped 27 = .ok (.invokevirtual 45, 3) := by decide +kernel
theorem dX2_refusalOfMapped_30 : decode cX2_refusalOfMapped 30 = .ok (.ifCond .eq 7, 3) := by decide +kernel
theorem dX2_refusalOfMapped_33 : decode cX2_refusalOfMapped 33 = .ok (.iconst 0, 1) := by decide +kernel
theorem dX2_refusalOfMapped_34 : decode cX2_refusalOfMapped 34 = .ok (.goto 5, 3) := by decide +kernel
theorem dX2_refusalOfMapped_37 : decode cX2_refusalOfMapped 37 = .ok (.bipush (-3), 2) := by decide +kernel
theorem dX2_refusalOfMapped_39 : decode cX2_refusalOfMapped 39 = .ok (.ireturn, 1) := by decide +kernel
set_option maxRecDepth 20000 in
theorem ggX2_refusalOfAddress_X2_refusalOfMapped : GoodIn wsX2_refusalOfAddress wsX2_refusalOfMapped := goodIn_r _ [5, 6, 7, 8, 9, 4, 10, 11, 12, 13, 14, 15, 16, 17, 18, 19, 20, 21, 22, 23, 24, 25, 26] (by decide +kernel) (by decide +kernel)
set_option maxRecDepth 20000 in
theorem gX2_refusalOfAddress_X2_refusalOfMapped : GoodIn wsX2_refusalOfAddress (wsV RX2 82 RX2 yX2_refusalOfMapped wsX2_refusalOfMapped) := goodIn_app (goodIn_of _ (by decide +kernel)) ggX2_refusalOfAddress_X2_refusalOfMapped
theorem dX2_refusalOfAddress_0 : decode cX2_refusalOfAddress 0 = .ok (.aload_n 0, 1) := by decide +kernel
theorem dX2_refusalOfAddress_1 : decode cX2_refusalOfAddress 1 = .ok (.iload_n 1, 1) := by decide +kernel
theorem dX2_refusalOfAddress_2 : decode cX2_refusalOfAddress 2 = .ok (.iload_n 2, 1) := by decide +kernel
theorem dX2_refusalOfAddress_3 : decode cX2_refusalOfAddress 3 = .ok (.ifCond .ge 7, 3) := by decide +kernel
theorem dX2_refusalOfAddress_6 : decode cX2_refusalOfAddress 6 = .ok (.iconst (-1), 1) := by decide +kernel
theorem dX2_refusalOfAddress_7 : decode cX2_refusalOfAddress 7 = .ok (.goto 6, 3) := by decide +kernel
theorem dX2_refusalOfAddress_10 : decode cX2_refusalOfAddress 10 = .ok (.iload_n 2, 1) := by decide +kernel
theorem dX2_refusalOfAddress_11 : decode cX2_refusalOfAddress 11 = .ok (.iconst 4, 1) := by decide +kernel
theorem dX2_refusalOfAddress_12 : decode cX2_refusalOfAddress 12 = .ok (.idiv, 1) := by decide +kernel
theorem dX2_refusalOfAddress_13 : decode cX2_refusalOfAddress 13 = .ok (.invokevirtual 82, 3) := by decide +kernel
theorem dX2_refusalOfAddress_16 : decode cX2_refusalOfAddress 16 = .ok (.ireturn, 1) := by decide +kernel
theorem dX2_leastIdle_0 : decode cX2_leastIdle 0 = .ok (.iconst 0, 1) := by decide +kernel
theorem dX2_leastIdle_1 : decode cX2_leastIdle 1 = .ok (.istore_n 1, 1) := by decide +kernel
theorem dX2_leastIdle_2 : decode cX2_leastIdle 2 = .ok (.iload_n 1, 1) := by decide +kernel
theorem dX2_leastIdle_3 : decode cX2_leastIdle 3 = .ok (.iconst 5, 1) := by decide +kernel
theorem dX2_leastIdle_4 : decode cX2_leastIdle 4 = .ok (.if_icmp .ge 23, 3) := by decide +kernel
theorem dX2_leastIdle_7 : decode cX2_leastIdle 7 = .ok (.aload_n 0, 1) := by decide +kernel
theorem dX2_leastIdle_8 : decode cX2_leastIdle 8 = .ok (.getfield 11, 3) := by decide +kernel
theorem dX2_leastIdle_11 : decode cX2_leastIdle 11 = .ok (.iload_n 1, 1) := by decide +kernel
theorem dX2_leastIdle_12 : decode cX2_leastIdle 12 = .ok (.aaload, 1) := by decide +kernel
theorem dX2_leastIdle_13 : decode cX2_leastIdle 13 = .ok (.getfield 34, 3) := by decide +kernel
theorem dX2_leastIdle_16 : decode cX2_leastIdle 16 = .ok (.ifCond .ne 5, 3) := by decide +kernel
theorem dX2_leastIdle_19 : decode cX2_leastIdle 19 = .ok (.iload_n 1, 1) := by decide +kernel
theorem dX2_leastIdle_20 : decode cX2_leastIdle 20 = .ok (.ireturn, 1) := by decide +kernel
theorem dX2_leastIdle_21 : decode cX2_leastIdle 21 = .ok (.iinc 1 1, 3) := by decide +kernel
theorem dX2_leastIdle_24 : decode cX2_leastIdle 24 = .ok (.goto (-22), 3) := by decide +kernel
theorem dX2_leastIdle_27 : decode cX2_leastIdle 27 = .ok (.iconst (-1), 1) := by decide +kernel
theorem dX2_leastIdle_28 : decode cX2_leastIdle 28 = .ok (.ireturn, 1) := by decide +kernel
set_option maxRecDepth 20000 in
theorem ggX2_freeFrames_X1_usedFrames : GoodIn wsX2_freeFrames wsX1_usedFrames := goodIn_r _ [6, 7, 27, 28] (by decide +kernel) (by decide +kernel)
set_option maxRecDepth 20000 in
theorem gX2_freeFrames_X1_usedFrames_n124 : GoodIn wsX2_freeFrames (wsX1_usedFrames) := ggX2_freeFrames_X1_usedFrames
set_option maxRecDepth 20000 in
theorem ggX2_freeFrames_X0_tableCount : GoodIn wsX2_freeFrames wsX0_tableCount := goodIn_r _ [11, 12, 13, 14, 9, 15, 16, 17, 18, 23, 24, 25, 26] (by decide +kernel) (by decide +kernel)
set_option maxRecDepth 20000 in
theorem gX2_freeFrames_X0_tableCount_n42 : GoodIn wsX2_freeFrames (wsX0_tableCount) := ggX2_freeFrames_X0_tableCount
theorem dX2_freeFrames_0 : decode cX2_freeFrames 0 = .ok (.bipush 24, 2) := by decide +kernel
theorem dX2_freeFrames_2 : decode cX2_freeFrames 2 = .ok (.aload_n 0, 1) := by decide +kernel
theorem dX2_freeFrames_3 : decode cX2_freeFrames 3 = .ok (.getfield 19, 3) := by decide +kernel
theorem dX2_freeFrames_6 : decode cX2_freeFrames 6 = .ok (.invokevirtual 124, 3) := by decide +kernel
theorem dX2_freeFrames_9 : decode cX2_freeFrames 9 = .ok (.isub, 1) := by decide +kernel
theorem dX2_freeFrames_10 : decode cX2_freeFrames 10 = .ok (.istore_n 1, 1) := by decide +kernel
theorem dX2_freeFrames_11 : decode cX2_freeFrames 11 = .ok (.iconst 0, 1) := by decide +kernel
theorem dX2_freeFrames_12 : decode cX2_freeFrames 12 = .ok (.istore_n 2, 1) := by decide +kernel
theorem dX2_freeFrames_13 : decode cX2_freeFrames 13 = .ok (.iload_n 2, 1) := by decide +kernel
theorem dX2_freeFrames_14 : decode cX2_freeFrames 14 = .ok (.iconst 5, 1) := by decide +kernel
theorem dX2_freeFrames_15 : decode cX2_freeFrames 15 = .ok (.if_icmp .ge 33, 3) := by decide +kernel
theorem dX2_freeFrames_18 : decode cX2_freeFrames 18 = .ok (.aload_n 0, 1) := by decide +kernel
theorem dX2_freeFrames_19 : decode cX2_freeFrames 19 = .ok (.getfield 11, 3) := by decide +kernel
theorem dX2_freeFrames_22 : decode cX2_freeFrames 22 = .ok (.iload_n 2, 1) := by decide +kernel
theorem dX2_freeFrames_23 : decode cX2_freeFrames 23 = .ok (.aaload, 1) := by decide +kernel
theorem dX2_freeFrames_24 : decode cX2_freeFrames 24 = .ok (.getfield 34, 3) := by decide +kernel
theorem dX2_freeFrames_27 : decode cX2_freeFrames 27 = .ok (.ifCond .eq 15, 3) := by decide +kernel
theorem dX2_freeFrames_30 : decode cX2_freeFrames 30 = .ok (.iload_n 1, 1) := by decide +kernel
theorem dX2_freeFrames_31 : decode cX2_freeFrames 31 = .ok (.aload_n 0, 1) := by decide +kernel
theorem dX2_freeFrames_32 : decode cX2_freeFrames 32 = .ok (.getfield 11, 3) := by decide +kernel
theorem dX2_freeFrames_35 : decode cX2_freeFrames 35 = .ok (.iload_n 2, 1) := by decide +kernel
theorem dX2_freeFrames_36 : decode cX2_freeFrames 36 = .ok (.aaload, 1) := by decide +kernel
theorem dX2_freeFrames_37 : decode cX2_freeFrames 37 = .ok (.invokevirtual 42, 3) := by decide +kernel
theorem dX2_freeFrames_40 : decode cX2_freeFrames 40 = .ok (.isub, 1) := by decide +kernel
theorem dX2_freeFrames_41 : decode cX2_freeFrames 41 = .ok (.istore_n 1, 1) := by decide +kernel
theorem dX2_freeFrames_42 : decode cX2_freeFrames 42 = .ok (.iinc 2 1, 3) := by decide +kernel
theorem dX2_freeFrames_45 : decode cX2_freeFrames 45 = .ok (.goto (-32), 3) := by decide +kernel
theorem dX2_freeFrames_48 : decode cX2_freeFrames 48 = .ok (.iload_n 1, 1) := by decide +kernel
theorem dX2_freeFrames_49 : decode cX2_freeFrames 49 = .ok (.ireturn, 1) := by decide +kernel
set_option maxRecDepth 20000 in
theorem ggX2_startMapping_X0_set : GoodIn wsX2_startMapping wsX0_set := goodIn_r _ [5, 6, 7, 8, 15, 16, 17, 18] (by decide +kernel) (by decide +kernel)
set_option maxRecDepth 20000 in
theorem gX2_startMapping_X0_set_n127 : GoodIn wsX2_startMapping (wsX0_set) := ggX2_startMapping_X0_set
theorem dX2_startMapping_0 : decode cX2_startMapping 0 = .ok (.aload_n 1, 1) := by decide +kernel
theorem dX2_startMapping_1 : decode cX2_startMapping 1 = .ok (.iload_n 2, 1) := by decide +kernel
theorem dX2_startMapping_2 : decode cX2_startMapping 2 = .ok (.iload_n 3, 1) := by decide +kernel
theorem dX2_startMapping_3 : decode cX2_startMapping 3 = .ok (.iload 4, 2) := by decide +kernel
theorem dX2_startMapping_5 : decode cX2_startMapping 5 = .ok (.invokevirtual 127, 3) := by decide +kernel
theorem dX2_startMapping_8 : decode cX2_startMapping 8 = .ok (.aload_n 0, 1) := by decide +kernel
theorem dX2_startMapping_9 : decode cX2_startMapping 9 = .ok (.getfield 19, 3) := by decide +kernel
theorem dX2_startMapping_12 : decode cX2_startMapping 12 = .ok (.getfield 111, 3) := by decide +kernel
theorem dX2_startMapping_15 : decode cX2_startMapping 15 = .ok (.iload_n 3, 1) := by decide +kernel
theorem dX2_startMapping_16 : decode cX2_startMapping 16 = .ok (.dup2, 1) := by decide +kernel
theorem dX2_startMapping_17 : decode cX2_startMapping 17 = .ok (.iaload, 1) := by decide +kernel
theorem dX2_startMapping_18 : decode cX2_startMapping 18 = .ok (.iconst 1, 1) := by decide +kernel
theorem dX2_startMapping_19 : decode cX2_startMapping 19 = .ok (.iadd, 1) := by decide +kernel
theorem dX2_startMapping_20 : decode cX2_startMapping 20 = .ok (.iastore, 1) := by decide +kernel
theorem dX2_startMapping_21 : decode cX2_startMapping 21 = .ok (.return_, 1) := by decide +kernel
set_option maxRecDepth 20000 in
theorem ggX2_endMapping_X0_clear : GoodIn wsX2_endMapping wsX0_clear := goodIn_r _ [5, 6, 7, 14, 15, 16, 17] (by decide +kernel) (by decide +kernel)
set_option maxRecDepth 20000 in
theorem gX2_endMapping_X0_clear_n131 : GoodIn wsX2_endMapping (wsX0_clear) := ggX2_endMapping_X0_clear
theorem dX2_endMapping_0 : decode cX2_endMapping 0 = .ok (.aload_n 0, 1) := by decide +kernel
theorem dX2_endMapping_1 : decode cX2_endMapping 1 = .ok (.getfield 19, 3) := by decide +kernel
theorem dX2_endMapping_4 : decode cX2_endMapping 4 = .ok (.getfield 111, 3) := by decide +kernel
theorem dX2_endMapping_7 : decode cX2_endMapping 7 = .ok (.aload_n 1, 1) := by decide +kernel
theorem dX2_endMapping_8 : decode cX2_endMapping 8 = .ok (.getfield 78, 3) := by decide +kernel
theorem dX2_endMapping_11 : decode cX2_endMapping 11 = .ok (.iload_n 2, 1) := by decide +kernel
theorem dX2_endMapping_12 : decode cX2_endMapping 12 = .ok (.iaload, 1) := by decide +kernel
theorem dX2_endMapping_13 : decode cX2_endMapping 13 = .ok (.dup2, 1) := by decide +kernel
theorem dX2_endMapping_14 : decode cX2_endMapping 14 = .ok (.iaload, 1) := by decide +kernel
theorem dX2_endMapping_15 : decode cX2_endMapping 15 = .ok (.iconst 1, 1) := by decide +kernel
theorem dX2_endMapping_16 : decode cX2_endMapping 16 = .ok (.isub, 1) := by decide +kernel
theorem dX2_endMapping_17 : decode cX2_endMapping 17 = .ok (.iastore, 1) := by decide +kernel
theorem dX2_endMapping_18 : decode cX2_endMapping 18 = .ok (.aload_n 1, 1) := by decide +kernel
theorem dX2_endMapping_19 : decode cX2_endMapping 19 = .ok (.iload_n 2, 1) := by decide +kernel
theorem dX2_endMapping_20 : decode cX2_endMapping 20 = .ok (.invokevirtual 131, 3) := by decide +kernel
theorem dX2_endMapping_23 : decode cX2_endMapping 23 = .ok (.return_, 1) := by decide +kernel
set_option maxRecDepth 20000 in
theorem ggX2_sharePage_X0_is : GoodIn wsX2_sharePage wsX0_is := goodIn_r _ [4, 5, 20, 21, 22, 23] (by decide +kernel) (by decide +kernel)
set_option maxRecDepth 20000 in
theorem gX2_sharePage_X0_is_n74 : GoodIn wsX2_sharePage (wsX0_is) := ggX2_sharePage_X0_is
set_option maxRecDepth 20000 in
theorem ggX2_sharePage_X0_turn : GoodIn wsX2_sharePage wsX0_turn := goodIn_r _ [8, 5, 20, 21, 22, 23] (by decide +kernel) (by decide +kernel)
set_option maxRecDepth 20000 in
theorem gX2_sharePage_X0_turn_n86 : GoodIn wsX2_sharePage (wsX0_turn) := ggX2_sharePage_X0_turn
set_option maxRecDepth 20000 in
theorem ggX2_sharePage_X2_startMapping : GoodIn wsX2_sharePage wsX2_startMapping := goodIn_r _ [13, 14, 15, 2, 16, 17, 18, 19, 5, 24, 25, 26, 27, 28, 29, 20, 21, 22, 23] (by decide +kernel) (by decide +kernel)
set_option maxRecDepth 20000 in
theorem gX2_sharePage_X2_startMapping : GoodIn wsX2_sharePage (wsV RX2 70 RX2 yX2_startMapping wsX2_startMapping) := goodIn_app (goodIn_of _ (by decide +kernel)) ggX2_sharePage_X2_startMapping
theorem dX2_sharePage_0 : decode cX2_sharePage 0 = .ok (.aload_n 1, 1) := by decide +kernel
theorem dX2_sharePage_1 : decode cX2_sharePage 1 = .ok (.iconst 2, 1) := by decide +kernel
theorem dX2_sharePage_2 : decode cX2_sharePage 2 = .ok (.iload_n 3, 1) := by decide +kernel
theorem dX2_sharePage_3 : decode cX2_sharePage 3 = .ok (.invokevirtual 74, 3) := by decide +kernel
theorem dX2_sharePage_6 : decode cX2_sharePage 6 = .ok (.ifCond .ne 18, 3) := by decide +kernel
theorem dX2_sharePage_9 : decode cX2_sharePage 9 = .ok (.aload_n 1, 1) := by decide +kernel
theorem dX2_sharePage_10 : decode cX2_sharePage 10 = .ok (.iconst 4, 1) := by decide +kernel
theorem dX2_sharePage_11 : decode cX2_sharePage 11 = .ok (.iload_n 3, 1) := by decide +kernel
theorem dX2_sharePage_12 : decode cX2_sharePage 12 = .ok (.invokevirtual 74, 3) := by decide +kernel
theorem dX2_sharePage_15 : decode cX2_sharePage 15 = .ok (.ifCond .ne 9, 3) := by decide +kernel
theorem dX2_sharePage_18 : decode cX2_sharePage 18 = .ok (.aload_n 1, 1) := by decide +kernel
theorem dX2_sharePage_19 : decode cX2_sharePage 19 = .ok (.iconst 4, 1) := by decide +kernel
theorem dX2_sharePage_20 : decode cX2_sharePage 20 = .ok (.iload_n 3, 1) := by decide +kernel
theorem dX2_sharePage_21 : decode cX2_sharePage 21 = .ok (.invokevirtual 86, 3) := by decide +kernel
theorem dX2_sharePage_24 : decode cX2_sharePage 24 = .ok (.aload_n 0, 1) := by decide +kernel
theorem dX2_sharePage_25 : decode cX2_sharePage 25 = .ok (.aload_n 2, 1) := by decide +kernel
theorem dX2_sharePage_26 : decode cX2_sharePage 26 = .ok (.iload_n 3, 1) := by decide +kernel
theorem dX2_sharePage_27 : decode cX2_sharePage 27 = .ok (.aload_n 1, 1) := by decide +kernel
theorem dX2_sharePage_28 : decode cX2_sharePage 28 = .ok (.getfield 78, 3) := by decide +kernel
theorem dX2_sharePage_31 : decode cX2_sharePage 31 = .ok (.iload_n 3, 1) := by decide +kernel
theorem dX2_sharePage_32 : decode cX2_sharePage 32 = .ok (.iaload, 1) := by decide +kernel
theorem dX2_sharePage_33 : decode cX2_sharePage 33 = .ok (.aload_n 1, 1) := by decide +kernel
theorem dX2_sharePage_34 : decode cX2_sharePage 34 = .ok (.getfield 114, 3) := by decide +kernel
theorem dX2_sharePage_37 : decode cX2_sharePage 37 = .ok (.iload_n 3, 1) := by decide +kernel
theorem dX2_sharePage_38 : decode cX2_sharePage 38 = .ok (.iaload, 1) := by decide +kernel
theorem dX2_sharePage_39 : decode cX2_sharePage 39 = .ok (.invokevirtual 70, 3) := by decide +kernel
theorem dX2_sharePage_42 : decode cX2_sharePage 42 = .ok (.return_, 1) := by decide +kernel
set_option maxRecDepth 20000 in
theorem ggX2_resolveFault_X2_freeFrames : GoodIn wsX2_resolveFault wsX2_freeFrames := goodIn_r _ [8, 1, 9, 10, 11, 12, 13, 14, 15, 16, 17, 18, 19, 20, 21, 22, 23, 24, 25, 57, 58, 59, 60, 53, 54, 55, 56, 61, 62] (by decide +kernel) (by decide +kernel)
set_option maxRecDepth 20000 in
theorem gX2_resolveFault_X2_freeFrames : GoodIn wsX2_resolveFault (wsV RX2 27 RX2 yX2_freeFrames wsX2_freeFrames) := goodIn_app (goodIn_of _ (by decide +kernel)) ggX2_resolveFault_X2_freeFrames
set_option maxRecDepth 20000 in
theorem ggX2_resolveFault_X0_turn : GoodIn wsX2_resolveFault wsX0_turn := goodIn_r _ [28, 29, 53, 54, 55, 56] (by decide +kernel) (by decide +kernel)
set_option maxRecDepth 20000 in
theorem gX2_resolveFault_X0_turn_n86 : GoodIn wsX2_resolveFault (wsX0_turn) := ggX2_resolveFault_X0_turn
set_option maxRecDepth 20000 in
theorem ggX2_resolveFault_X1_unusedFrame : GoodIn wsX2_resolveFault wsX1_unusedFrame := goodIn_r _ [32, 14, 61, 62] (by decide +kernel) (by decide +kernel)
set_option maxRecDepth 20000 in
theorem gX2_resolveFault_X1_unusedFrame_n63 : GoodIn wsX2_resolveFault (wsX1_unusedFrame) := ggX2_resolveFault_X1_unusedFrame
set_option maxRecDepth 20000 in
theorem ggX2_resolveFault_X1_copy : GoodIn wsX2_resolveFault wsX1_copy := goodIn_r _ [35, 36, 61, 62] (by decide +kernel) (by decide +kernel)
set_option maxRecDepth 20000 in
theorem gX2_resolveFault_X1_copy_n134 : GoodIn wsX2_resolveFault (wsX1_copy) := ggX2_resolveFault_X1_copy
set_option maxRecDepth 20000 in
theorem ggX2_resolveFault_X2_endMapping : GoodIn wsX2_resolveFault wsX2_endMapping := goodIn_r _ [40, 1, 41, 16, 42, 43, 19, 44, 57, 58, 59, 60, 61, 62, 53, 54, 55, 56] (by decide +kernel) (by decide +kernel)
set_option maxRecDepth 20000 in
theorem gX2_resolveFault_X2_endMapping : GoodIn wsX2_resolveFault (wsV RX2 52 RX2 yX2_endMapping wsX2_endMapping) := goodIn_app (goodIn_of _ (by decide +kernel)) ggX2_resolveFault_X2_endMapping
set_option maxRecDepth 20000 in
theorem ggX2_resolveFault_X2_startMapping : GoodIn wsX2_resolveFault wsX2_startMapping := goodIn_r _ [48, 1, 49, 16, 50, 51, 19, 52, 29, 57, 58, 59, 60, 61, 62, 53, 54, 55, 56] (by decide +kernel) (by decide +kernel)
set_option maxRecDepth 20000 in
theorem gX2_resolveFault_X2_startMapping : GoodIn wsX2_resolveFault (wsV RX2 70 RX2 yX2_startMapping wsX2_startMapping) := goodIn_app (goodIn_of _ (by decide +kernel)) ggX2_resolveFault_X2_startMapping
theorem dX2_resolveFault_0 : decode cX2_resolveFault 0 = .ok (.aload_n 1, 1) := by decide +kernel
theorem dX2_resolveFault_1 : decode cX2_resolveFault 1 = .ok (.getfield 78, 3) := by decide +kernel
theorem dX2_resolveFault_4 : decode cX2_resolveFault 4 = .ok (.iload_n 2, 1) := by decide +kernel
theorem dX2_resolveFault_5 : decode cX2_resolveFault 5 = .ok (.iaload, 1) := by decide +kernel
theorem dX2_resolveFault_6 : decode cX2_resolveFault 6 = .ok (.istore_n 3, 1) := by decide +kernel
theorem dX2_resolveFault_7 : decode cX2_resolveFault 7 = .ok (.aload_n 0, 1) := by decide +kernel
theorem dX2_resolveFault_8 : decode cX2_resolveFault 8 = .ok (.getfield 19, 3) := by decide +kernel
theorem dX2_resolveFault_11 : decode cX2_resolveFault 11 = .ok (.getfield 111, 3) := by decide +kernel
theorem dX2_resolveFault_14 : decode cX2_resolveFault 14 = .ok (.iload_n 3, 1) := by decide +kernel
theorem dX2_resolveFault_15 : decode cX2_resolveFault 15 = .ok (.iaload, 1) := by decide +kernel
theorem dX2_resolveFault_16 : decode cX2_resolveFault 16 = .ok (.iconst 1, 1) := by decide +kernel
theorem dX2_resolveFault_17 : decode cX2_resolveFault 17 = .ok (.if_icmp .le 7, 3) := by decide +kernel
theorem dX2_resolveFault_20 : decode cX2_resolveFault 20 = .ok (.iconst 1, 1) := by decide +kernel
theorem dX2_resolveFault_21 : decode cX2_resolveFault 21 = .ok (.goto 4, 3) := by decide +kernel
theorem dX2_resolveFault_24 : decode cX2_resolveFault 24 = .ok (.iconst 0, 1) := by decide +kernel
theorem dX2_resolveFault_25 : decode cX2_resolveFault 25 = .ok (.istore 4, 2) := by decide +kernel
theorem dX2_resolveFault_27 : decode cX2_resolveFault 27 = .ok (.iload 4, 2) := by decide +kernel
theorem dX2_resolveFault_29 : decode cX2_resolveFault 29 = .ok (.ifCond .eq 14, 3) := by decide +kernel
theorem dX2_resolveFault_32 : decode cX2_resolveFault 32 = .ok (.aload_n 0, 1) := by decide +kernel
theorem dX2_resolveFault_33 : decode cX2_resolveFault 33 = .ok (.invokevirtual 27, 3) := by decide +kernel
theorem dX2_resolveFault_36 : decode cX2_resolveFault 36 = .ok (.iconst 1, 1) := by decide +kernel
theorem dX2_resolveFault_37 : decode cX2_resolveFault 37 = .ok (.if_icmp .ge 6, 3) := by decide +kernel
theorem dX2_resolveFault_40 : decode cX2_resolveFault 40 = .ok (.bipush (-8), 2) := by decide +kernel
theorem dX2_resolveFault_42 : decode cX2_resolveFault 42 = .ok (.ireturn, 1) := by decide +kernel
theorem dX2_resolveFault_43 : decode cX2_resolveFault 43 = .ok (.aload_n 0, 1) := by decide +kernel
theorem dX2_resolveFault_44 : decode cX2_resolveFault 44 = .ok (.dup, 1) := by decide +kernel
theorem dX2_resolveFault_45 : decode cX2_resolveFault 45 = .ok (.getfield 121, 3) := by decide +kernel
theorem dX2_resolveFault_48 : decode cX2_resolveFault 48 = .ok (.iconst 1, 1) := by decide +kernel
theorem dX2_resolveFault_49 : decode cX2_resolveFault 49 = .ok (.iadd, 1) := by decide +kernel
theorem dX2_resolveFault_50 : decode cX2_resolveFault 50 = .ok (.putfield 121, 3) := by decide +kernel
theorem dX2_resolveFault_53 : decode cX2_resolveFault 53 = .ok (.aload_n 1, 1) := by decide +kernel
theorem dX2_resolveFault_54 : decode cX2_resolveFault 54 = .ok (.iconst 4, 1) := by decide +kernel
theorem dX2_resolveFault_55 : decode cX2_resolveFault 55 = .ok (.iload_n 2, 1) := by decide +kernel
theorem dX2_resolveFault_56 : decode cX2_resolveFault 56 = .ok (.invokevirtual 86, 3) := by decide +kernel
theorem dX2_resolveFault_59 : decode cX2_resolveFault 59 = .ok (.iload 4, 2) := by decide +kernel
theorem dX2_resolveFault_61 : decode cX2_resolveFault 61 = .ok (.ifCond .ne 5, 3) := by decide +kernel
theorem dX2_resolveFault_64 : decode cX2_resolveFault 64 = .ok (.iconst 1, 1) := by decide +kernel
theorem dX2_resolveFault_65 : decode cX2_resolveFault 65 = .ok (.ireturn, 1) := by decide +kernel
theorem dX2_resolveFault_66 : decode cX2_resolveFault 66 = .ok (.aload_n 0, 1) := by decide +kernel
theorem dX2_resolveFault_67 : decode cX2_resolveFault 67 = .ok (.dup, 1) := by decide +kernel
theorem dX2_resolveFault_68 : decode cX2_resolveFault 68 = .ok (.getfield 117, 3) := by decide +kernel
theorem dX2_resolveFault_71 : decode cX2_resolveFault 71 = .ok (.iconst 1, 1) := by decide +kernel
theorem dX2_resolveFault_72 : decode cX2_resolveFault 72 = .ok (.iadd, 1) := by decide +kernel
theorem dX2_resolveFault_73 : decode cX2_resolveFault 73 = .ok (.putfield 117, 3) := by decide +kernel
theorem dX2_resolveFault_76 : decode cX2_resolveFault 76 = .ok (.aload_n 0, 1) := by decide +kernel
theorem dX2_resolveFault_77 : decode cX2_resolveFault 77 = .ok (.getfield 19, 3) := by decide +kernel
theorem dX2_resolveFault_80 : decode cX2_resolveFault 80 = .ok (.invokevirtual 63, 3) := by decide +kernel
theorem dX2_resolveFault_83 : decode cX2_resolveFault 83 = .ok (.istore 5, 2) := by decide +kernel
theorem dX2_resolveFault_85 : decode cX2_resolveFault 85 = .ok (.aload_n 0, 1) := by decide +kernel
theorem dX2_resolveFault_86 : decode cX2_resolveFault 86 = .ok (.getfield 19, 3) := by decide +kernel
theorem dX2_resolveFault_89 : decode cX2_resolveFault 89 = .ok (.iload_n 3, 1) := by decide +kernel
theorem dX2_resolveFault_90 : decode cX2_resolveFault 90 = .ok (.iload 5, 2) := by decide +kernel
theorem dX2_resolveFault_92 : decode cX2_resolveFault 92 = .ok (.invokevirtual 134, 3) := by decide +kernel
theorem dX2_resolveFault_95 : decode cX2_resolveFault 95 = .ok (.aload_n 1, 1) := by decide +kernel
theorem dX2_resolveFault_96 : decode cX2_resolveFault 96 = .ok (.getfield 114, 3) := by decide +kernel
theorem dX2_resolveFault_99 : decode cX2_resolveFault 99 = .ok (.iload_n 2, 1) := by decide +kernel
theorem dX2_resolveFault_100 : decode cX2_resolveFault 100 = .ok (.iaload, 1) := by decide +kernel
theorem dX2_resolveFault_101 : decode cX2_resolveFault 101 = .ok (.istore 6, 2) := by decide +kernel
theorem dX2_resolveFault_103 : decode cX2_resolveFault 103 = .ok (.aload_n 0, 1) := by decide +kernel
theorem dX2_resolveFault_104 : decode cX2_resolveFault 104 = .ok (.aload_n 1, 1) := by decide +kernel
theorem dX2_resolveFault_105 : decode cX2_resolveFault 105 = .ok (.iload_n 2, 1) := by decide +kernel
theorem dX2_resolveFault_106 : decode cX2_resolveFault 106 = .ok (.invokevirtual 52, 3) := by decide +kernel
theorem dX2_resolveFault_109 : decode cX2_resolveFault 109 = .ok (.aload_n 0, 1) := by decide +kernel
theorem dX2_resolveFault_110 : decode cX2_resolveFault 110 = .ok (.aload_n 1, 1) := by decide +kernel
theorem dX2_resolveFault_111 : decode cX2_resolveFault 111 = .ok (.iload_n 2, 1) := by decide +kernel
theorem dX2_resolveFault_112 : decode cX2_resolveFault 112 = .ok (.iload 5, 2) := by decide +kernel
theorem dX2_resolveFault_114 : decode cX2_resolveFault 114 = .ok (.iload 6, 2) := by decide +kernel
theorem dX2_resolveFault_116 : decode cX2_resolveFault 116 = .ok (.invokevirtual 70, 3) := by decide +kernel
theorem dX2_resolveFault_119 : decode cX2_resolveFault 119 = .ok (.iconst 2, 1) := by decide +kernel
theorem dX2_resolveFault_120 : decode cX2_resolveFault 120 = .ok (.ireturn, 1) := by decide +kernel
theorem dX3_init_0 : decode cX3_init 0 = .ok (.aload_n 0, 1) := by decide +kernel
theorem dX3_init_1 : decode cX3_init 1 = .ok (.invokespecial 1, 3) := by decide +kernel
theorem dX3_init_4 : decode cX3_init 4 = .ok (.aload_n 0, 1) := by decide +kernel
theorem dX3_init_5 : decode cX3_init 5 = .ok (.iconst 5, 1) := by decide +kernel
theorem dX3_init_6 : decode cX3_init 6 = .ok (.newarray .boolean, 2) := by decide +kernel
theorem dX3_init_8 : decode cX3_init 8 = .ok (.putfield 7, 3) := by decide +kernel
theorem dX3_init_11 : decode cX3_init 11 = .ok (.aload_n 0, 1) := by decide +kernel
theorem dX3_init_12 : decode cX3_init 12 = .ok (.sipush 320, 3) := by decide +kernel
theorem dX3_init_15 : decode cX3_init 15 = .ok (.newarray .int, 2) := by decide +kernel
theorem dX3_init_17 : decode cX3_init 17 = .ok (.putfield 13, 3) := by decide +kernel
theorem dX3_init_20 : decode cX3_init 20 = .ok (.aload_n 0, 1) := by decide +kernel
theorem dX3_init_21 : decode cX3_init 21 = .ok (.sipush 320, 3) := by decide +kernel
theorem dX3_init_24 : decode cX3_init 24 = .ok (.newarray .boolean, 2) := by decide +kernel
theorem dX3_init_26 : decode cX3_init 26 = .ok (.putfield 17, 3) := by decide +kernel
theorem dX3_init_29 : decode cX3_init 29 = .ok (.aload_n 0, 1) := by decide +kernel
theorem dX3_init_30 : decode cX3_init 30 = .ok (.sipush 320, 3) := by decide +kernel
theorem dX3_init_33 : decode cX3_init 33 = .ok (.newarray .boolean, 2) := by decide +kernel
theorem dX3_init_35 : decode cX3_init 35 = .ok (.putfield 20, 3) := by decide +kernel
theorem dX3_init_38 : decode cX3_init 38 = .ok (.aload_n 0, 1) := by decide +kernel
theorem dX3_init_39 : decode cX3_init 39 = .ok (.sipush 320, 3) := by decide +kernel
theorem dX3_init_42 : decode cX3_init 42 = .ok (.newarray .boolean, 2) := by decide +kernel
theorem dX3_init_44 : decode cX3_init 44 = .ok (.putfield 23, 3) := by decide +kernel
theorem dX3_init_47 : decode cX3_init 47 = .ok (.aload_n 0, 1) := by decide +kernel
theorem dX3_init_48 : decode cX3_init 48 = .ok (.bipush 96, 2) := by decide +kernel
theorem dX3_init_50 : decode cX3_init 50 = .ok (.newarray .int, 2) := by decide +kernel
theorem dX3_init_52 : decode cX3_init 52 = .ok (.putfield 26, 3) := by decide +kernel
theorem dX3_init_55 : decode cX3_init 55 = .ok (.return_, 1) := by decide +kernel
theorem dJ13_bitCount_95d88_0 : decode cJ13_bitCount_95d88 0 = .ok (.lload_n 0, 1) := by decide +kernel
theorem dJ13_bitCount_95d88_1 : decode cJ13_bitCount_95d88 1 = .ok (.lload_n 0, 1) := by decide +kernel
theorem dJ13_bitCount_95d88_2 : decode cJ13_bitCount_95d88 2 = .ok (.iconst 1, 1) := by decide +kernel
theorem dJ13_bitCount_95d88_3 : decode cJ13_bitCount_95d88 3 = .ok (.lushr, 1) := by decide +kernel
theorem dJ13_bitCount_95d88_4 : decode cJ13_bitCount_95d88 4 = .ok (.ldc2_w 314, 3) := by decide +kernel
theorem dJ13_bitCount_95d88_7 : decode cJ13_bitCount_95d88 7 = .ok (.land, 1) := by decide +kernel
theorem dJ13_bitCount_95d88_8 : decode cJ13_bitCount_95d88 8 = .ok (.lsub, 1) := by decide +kernel
theorem dJ13_bitCount_95d88_9 : decode cJ13_bitCount_95d88 9 = .ok (.lstore_n 0, 1) := by decide +kernel
theorem dJ13_bitCount_95d88_10 : decode cJ13_bitCount_95d88 10 = .ok (.lload_n 0, 1) := by decide +kernel
theorem dJ13_bitCount_95d88_11 : decode cJ13_bitCount_95d88 11 = .ok (.ldc2_w 316, 3) := by decide +kernel
theorem dJ13_bitCount_95d88_14 : decode cJ13_bitCount_95d88 14 = .ok (.land, 1) := by decide +kernel
theorem dJ13_bitCount_95d88_15 : decode cJ13_bitCount_95d88 15 = .ok (.lload_n 0, 1) := by decide +kernel
theorem dJ13_bitCount_95d88_16 : decode cJ13_bitCount_95d88 16 = .ok (.iconst 2, 1) := by decide +kernel
theorem dJ13_bitCount_95d88_17 : decode cJ13_bitCount_95d88 17 = .ok (.lushr, 1) := by decide +kernel
theorem dJ13_bitCount_95d88_18 : decode cJ13_bitCount_95d88 18 = .ok (.ldc2_w 316, 3) := by decide +kernel
theorem dJ13_bitCount_95d88_21 : decode cJ13_bitCount_95d88 21 = .ok (.land, 1) := by decide +kernel
theorem dJ13_bitCount_95d88_22 : decode cJ13_bitCount_95d88 22 = .ok (.ladd, 1) := by decide +kernel
theorem dJ13_bitCount_95d88_23 : decode cJ13_bitCount_95d88 23 = .ok (.lstore_n 0, 1) := by decide +kernel
theorem dJ13_bitCount_95d88_24 : decode cJ13_bitCount_95d88 24 = .ok (.lload_n 0, 1) := by decide +kernel
theorem dJ13_bitCount_95d88_25 : decode cJ13_bitCount_95d88 25 = .ok (.lload_n 0, 1) := by decide +kernel
theorem dJ13_bitCount_95d88_26 : decode cJ13_bitCount_95d88 26 = .ok (.iconst 4, 1) := by decide +kernel
theorem dJ13_bitCount_95d88_27 : decode cJ13_bitCount_95d88 27 = .ok (.lushr, 1) := by decide +kernel
theorem dJ13_bitCount_95d88_28 : decode cJ13_bitCount_95d88 28 = .ok (.ladd, 1) := by decide +kernel
theorem dJ13_bitCount_95d88_29 : decode cJ13_bitCount_95d88 29 = .ok (.ldc2_w 318, 3) := by decide +kernel
theorem dJ13_bitCount_95d88_32 : decode cJ13_bitCount_95d88 32 = .ok (.land, 1) := by decide +kernel
theorem dJ13_bitCount_95d88_33 : decode cJ13_bitCount_95d88 33 = .ok (.lstore_n 0, 1) := by decide +kernel
theorem dJ13_bitCount_95d88_34 : decode cJ13_bitCount_95d88 34 = .ok (.lload_n 0, 1) := by decide +kernel
theorem dJ13_bitCount_95d88_35 : decode cJ13_bitCount_95d88 35 = .ok (.lload_n 0, 1) := by decide +kernel
theorem dJ13_bitCount_95d88_36 : decode cJ13_bitCount_95d88 36 = .ok (.bipush 8, 2) := by decide +kernel
theorem dJ13_bitCount_95d88_38 : decode cJ13_bitCount_95d88 38 = .ok (.lushr, 1) := by decide +kernel
theorem dJ13_bitCount_95d88_39 : decode cJ13_bitCount_95d88 39 = .ok (.ladd, 1) := by decide +kernel
theorem dJ13_bitCount_95d88_40 : decode cJ13_bitCount_95d88 40 = .ok (.lstore_n 0, 1) := by decide +kernel
theorem dJ13_bitCount_95d88_41 : decode cJ13_bitCount_95d88 41 = .ok (.lload_n 0, 1) := by decide +kernel
theorem dJ13_bitCount_95d88_42 : decode cJ13_bitCount_95d88 42 = .ok (.lload_n 0, 1) := by decide +kernel
theorem dJ13_bitCount_95d88_43 : decode cJ13_bitCount_95d88 43 = .ok (.bipush 16, 2) := by decide +kernel
theorem dJ13_bitCount_95d88_45 : decode cJ13_bitCount_95d88 45 = .ok (.lushr, 1) := by decide +kernel
theorem dJ13_bitCount_95d88_46 : decode cJ13_bitCount_95d88 46 = .ok (.ladd, 1) := by decide +kernel
theorem dJ13_bitCount_95d88_47 : decode cJ13_bitCount_95d88 47 = .ok (.lstore_n 0, 1) := by decide +kernel
theorem dJ13_bitCount_95d88_48 : decode cJ13_bitCount_95d88 48 = .ok (.lload_n 0, 1) := by decide +kernel
theorem dJ13_bitCount_95d88_49 : decode cJ13_bitCount_95d88 49 = .ok (.lload_n 0, 1) := by decide +kernel
theorem dJ13_bitCount_95d88_50 : decode cJ13_bitCount_95d88 50 = .ok (.bipush 32, 2) := by decide +kernel
theorem dJ13_bitCount_95d88_52 : decode cJ13_bitCount_95d88 52 = .ok (.lushr, 1) := by decide +kernel
theorem dJ13_bitCount_95d88_53 : decode cJ13_bitCount_95d88 53 = .ok (.ladd, 1) := by decide +kernel
theorem dJ13_bitCount_95d88_54 : decode cJ13_bitCount_95d88 54 = .ok (.lstore_n 0, 1) := by decide +kernel
theorem dJ13_bitCount_95d88_55 : decode cJ13_bitCount_95d88 55 = .ok (.lload_n 0, 1) := by decide +kernel
theorem dJ13_bitCount_95d88_56 : decode cJ13_bitCount_95d88 56 = .ok (.l2i, 1) := by decide +kernel
theorem dJ13_bitCount_95d88_57 : decode cJ13_bitCount_95d88 57 = .ok (.bipush 127, 2) := by decide +kernel
theorem dJ13_bitCount_95d88_59 : decode cJ13_bitCount_95d88 59 = .ok (.iand, 1) := by decide +kernel
theorem dJ13_bitCount_95d88_60 : decode cJ13_bitCount_95d88 60 = .ok (.ireturn, 1) := by decide +kernel
set_option maxRecDepth 20000 in
theorem ggL_law_X2_init : GoodIn wsL_law wsX2_init := goodIn_r _ [8, 9, 10, 11, 12, 13, 14, 15, 16, 17, 18, 19, 20, 21, 22, 23, 24, 25, 26, 27, 28, 29, 30, 195, 196, 197, 198, 199, 200, 201, 202, 203, 204] (by decide +kernel) (by decide +kernel)
set_option maxRecDepth 20000 in
theorem gL_law_X2_init : GoodIn wsL_law (wsX2_init) := ggL_law_X2_init
set_option maxRecDepth 20000 in
theorem ggL_law_X3_init : GoodIn wsL_law wsX3_init := goodIn_r _ [33, 34, 10, 11, 35, 23, 36] (by decide +kernel) (by decide +kernel)
set_option maxRecDepth 20000 in
theorem gL_law_X3_init : GoodIn wsL_law (wsX3_init) := ggL_law_X3_init
set_option maxRecDepth 20000 in
theorem ggL_law_X2_spawn : GoodIn wsL_law wsX2_spawn := goodIn_r _ [40, 13, 41, 42, 43, 2, 44, 45, 46, 47, 48, 19, 49, 18, 50, 51, 30, 52, 15, 53, 54, 55, 56, 57, 58, 59, 60, 61, 195, 196, 197, 198, 199, 200, 201, 202, 203, 204] (by decide +kernel) (by decide +kernel)
set_option maxRecDepth 20000 in
theorem gL_law_X2_spawn : GoodIn wsL_law (wsV RL 13 RX2 yX2_spawn wsX2_spawn) := goodIn_app (goodIn_of _ (by decide +kernel)) ggL_law_X2_spawn
set_option maxRecDepth 20000 in
theorem ggL_law_X2_fork : GoodIn wsL_law wsX2_fork := goodIn_r _ [65, 13, 66, 67, 68, 2, 69, 41, 42, 43, 44, 45, 46, 47, 48, 19, 49, 18, 50, 51, 30, 52, 15, 53, 54, 55, 56, 57, 58, 59, 60, 61, 70, 71, 72, 73, 74, 75, 76, 77, 78, 79, 25, 80, 81, 82, 83, 84, 85, 86, 87, 88, 89, 24, 195, 196, 197, 198, 199, 200, 201, 202, 203, 204] (by decide +kernel) (by decide +kernel)
set_option maxRecDepth 20000 in
theorem gL_law_X2_fork : GoodIn wsL_law (wsV RL 18 RX2 yX2_fork wsX2_fork) := goodIn_app (goodIn_of _ (by decide +kernel)) ggL_law_X2_fork
set_option maxRecDepth 20000 in
theorem ggL_law_X2_exit : GoodIn wsL_law wsX2_exit := goodIn_r _ [93, 13, 66, 67, 68, 2, 69, 45, 46, 47, 48, 19, 49, 18, 50, 51, 30, 52, 15, 53, 54, 55, 56, 57, 58, 59, 60, 61, 70, 71, 72, 94, 95, 96, 97, 98, 99, 100, 101, 195, 196, 197, 198, 199, 200, 201, 202, 203, 204] (by decide +kernel) (by decide +kernel)
set_option maxRecDepth 20000 in
theorem gL_law_X2_exit : GoodIn wsL_law (wsV RL 23 RX2 yX2_exit wsX2_exit) := goodIn_app (goodIn_of _ (by decide +kernel)) ggL_law_X2_exit
set_option maxRecDepth 20000 in
theorem ggL_law_X2_map : GoodIn wsL_law wsX2_map := goodIn_r _ [105, 13, 19, 66, 67, 68, 2, 69, 106, 107, 108, 70, 15, 71, 72, 55, 109, 110, 111, 56, 57, 58, 59, 60, 61, 45, 46, 47, 48, 49, 18, 50, 51, 30, 52, 53, 54, 112, 113, 114, 115, 116, 117, 29, 83, 84, 85, 86, 87, 88, 89, 24, 25, 195, 196, 197, 198, 199, 200, 201, 202, 203, 204] (by decide +kernel) (by decide +kernel)
set_option maxRecDepth 20000 in
theorem gL_law_X2_map : GoodIn wsL_law (wsV RL 27 RX2 yX2_map wsX2_map) := goodIn_app (goodIn_of _ (by decide +kernel)) ggL_law_X2_map
set_option maxRecDepth 20000 in
theorem ggL_law_X2_attach : GoodIn wsL_law wsX2_attach := goodIn_r _ [121, 13, 66, 67, 68, 2, 69, 106, 107, 108, 70, 15, 71, 72, 55, 77, 78, 79, 25, 109, 110, 111, 56, 57, 58, 59, 60, 61, 45, 46, 47, 48, 19, 49, 18, 50, 51, 30, 52, 53, 54, 83, 84, 85, 86, 87, 88, 89, 24, 195, 196, 197, 198, 199, 200, 201, 202, 203, 204] (by decide +kernel) (by decide +kernel)
set_option maxRecDepth 20000 in
theorem gL_law_X2_attach : GoodIn wsL_law (wsV RL 32 RX2 yX2_attach wsX2_attach) := goodIn_app (goodIn_of _ (by decide +kernel)) ggL_law_X2_attach
set_option maxRecDepth 20000 in
theorem ggL_law_X2_unmap : GoodIn wsL_law wsX2_unmap := goodIn_r _ [125, 13, 126, 127, 128, 2, 129, 66, 67, 68, 69, 106, 107, 108, 70, 15, 71, 72, 55, 45, 46, 47, 48, 19, 49, 18, 50, 51, 30, 52, 53, 54, 56, 57, 58, 59, 60, 61, 94, 95, 96, 97, 98, 99, 100, 101, 195, 196, 197, 198, 199, 200, 201, 202, 203, 204] (by decide +kernel) (by decide +kernel)
set_option maxRecDepth 20000 in
theorem gL_law_X2_unmap : GoodIn wsL_law (wsV RL 37 RX2 yX2_unmap wsX2_unmap) := goodIn_app (goodIn_of _ (by decide +kernel)) ggL_law_X2_unmap
set_option maxRecDepth 20000 in
theorem ggL_law_X2_protect : GoodIn wsL_law wsX2_protect := goodIn_r _ [133, 13, 126, 127, 128, 2, 129, 66, 67, 68, 69, 106, 107, 108, 70, 15, 71, 72, 55, 77, 78, 79, 25, 80, 81, 82, 195, 196, 197, 198, 199, 200, 201, 202] (by decide +kernel) (by decide +kernel)
set_option maxRecDepth 20000 in
theorem gL_law_X2_protect : GoodIn wsL_law (wsV RL 42 RX2 yX2_protect wsX2_protect) := goodIn_app (goodIn_of _ (by decide +kernel)) ggL_law_X2_protect
set_option maxRecDepth 20000 in
theorem ggL_law_X2_write : GoodIn wsL_law wsX2_write := goodIn_r _ [137, 13, 19, 138, 139, 140, 2, 141, 126, 127, 128, 129, 66, 67, 68, 69, 106, 107, 108, 70, 15, 71, 72, 55, 77, 78, 79, 25, 142, 143, 144, 145, 146, 147, 45, 46, 47, 48, 49, 18, 50, 51, 30, 52, 53, 54, 56, 57, 58, 59, 60, 61, 80, 81, 82, 112, 113, 114, 148, 149, 150, 29, 94, 95, 96, 97, 98, 99, 100, 101, 83, 84, 85, 86, 87, 88, 89, 24, 195, 196, 197, 198, 203, 204, 199, 200, 201, 202] (by decide +kernel) (by decide +kernel)
set_option maxRecDepth 20000 in
theorem gL_law_X2_write : GoodIn wsL_law (wsV RL 46 RX2 yX2_write wsX2_write) := goodIn_app (goodIn_of _ (by decide +kernel)) ggL_law_X2_write
set_option maxRecDepth 20000 in
theorem ggL_law_X2_read : GoodIn wsL_law wsX2_read := goodIn_r _ [154, 155, 13, 19, 138, 139, 140, 2, 141, 126, 127, 128, 129, 66, 67, 68, 69, 106, 107, 108, 70, 15, 71, 72, 55, 195, 196, 197, 198, 199, 200, 201, 202, 203, 204] (by decide +kernel) (by decide +kernel)
set_option maxRecDepth 20000 in
theorem gL_law_X2_read : GoodIn wsL_law (wsV RL 51 RX2 yX2_read wsX2_read) := goodIn_app (goodIn_of _ (by decide +kernel)) ggL_law_X2_read
set_option maxRecDepth 20000 in
theorem ggL_law_X2_free : GoodIn wsL_law wsX2_free := goodIn_r _ [159, 45, 46, 47, 2, 48, 19, 13, 49, 18, 50, 51, 30, 52, 15, 53, 54, 55, 56, 57, 58, 59, 60, 61, 195, 196, 197, 198, 199, 200, 201, 202, 203, 204] (by decide +kernel) (by decide +kernel)
set_option maxRecDepth 20000 in
theorem gL_law_X2_free : GoodIn wsL_law (wsV RL 56 RX2 yX2_free wsX2_free) := goodIn_app (goodIn_of _ (by decide +kernel)) ggL_law_X2_free
set_option maxRecDepth 20000 in
theorem ggL_law_X2_tables : GoodIn wsL_law wsX2_tables := goodIn_r _ [163, 13, 66, 67, 68, 2, 69, 52, 15, 53, 54, 55, 56, 57, 58, 59, 60, 61, 195, 196, 197, 198, 199, 200, 201, 202] (by decide +kernel) (by decide +kernel)
set_option maxRecDepth 20000 in
theorem gL_law_X2_tables : GoodIn wsL_law (wsV RL 60 RX2 yX2_tables wsX2_tables) := goodIn_app (goodIn_of _ (by decide +kernel)) ggL_law_X2_tables
set_option maxRecDepth 20000 in
theorem ggL_law_X2_pages : GoodIn wsL_law wsX2_pages := goodIn_r _ [167, 13, 66, 67, 68, 2, 69, 168, 169, 170, 171, 172, 173, 174, 195, 196, 197, 198, 199, 200, 201, 202] (by decide +kernel) (by decide +kernel)
set_option maxRecDepth 20000 in
theorem gL_law_X2_pages : GoodIn wsL_law (wsV RL 64 RX2 yX2_pages wsX2_pages) := goodIn_app (goodIn_of _ (by decide +kernel)) ggL_law_X2_pages
set_option maxRecDepth 20000 in
theorem ggL_law_X2_count : GoodIn wsL_law wsX2_count := goodIn_r _ [178, 19, 13, 126, 127, 128, 2, 129, 66, 67, 68, 69, 106, 107, 108, 70, 15, 71, 72, 55, 195, 196, 197, 198, 203, 204, 199, 200, 201, 202] (by decide +kernel) (by decide +kernel)
set_option maxRecDepth 20000 in
theorem gL_law_X2_count : GoodIn wsL_law (wsV RL 68 RX2 yX2_count wsX2_count) := goodIn_app (goodIn_of _ (by decide +kernel)) ggL_law_X2_count
set_option maxRecDepth 20000 in
theorem ggL_law_X2_mapping : GoodIn wsL_law wsX2_mapping := goodIn_r _ [182, 13, 126, 127, 128, 2, 129, 66, 67, 68, 69, 106, 107, 108, 70, 15, 71, 72, 55, 195, 196, 197, 198, 199, 200, 201, 202] (by decide +kernel) (by decide +kernel)
set_option maxRecDepth 20000 in
theorem gL_law_X2_mapping : GoodIn wsL_law (wsV RL 72 RX2 yX2_mapping wsX2_mapping) := goodIn_app (goodIn_of _ (by decide +kernel)) ggL_law_X2_mapping
set_option maxRecDepth 20000 in
theorem ggL_law_X2_twin : GoodIn wsL_law wsX2_twin := goodIn_r _ [186, 13, 66, 67, 68, 2, 69, 126, 127, 128, 129, 106, 107, 108, 70, 15, 71, 72, 55, 195, 196, 197, 198, 199, 200, 201, 202] (by decide +kernel) (by decide +kernel)
set_option maxRecDepth 20000 in
theorem gL_law_X2_twin : GoodIn wsL_law (wsV RL 76 RX2 yX2_twin wsX2_twin) := goodIn_app (goodIn_of _ (by decide +kernel)) ggL_law_X2_twin
set_option maxRecDepth 20000 in
theorem ggL_law_X2_running : GoodIn wsL_law wsX2_running := goodIn_r _ [190, 13, 195, 196, 197, 198, 199, 200, 201, 202] (by decide +kernel) (by decide +kernel)
set_option maxRecDepth 20000 in
theorem gL_law_X2_running : GoodIn wsL_law (wsV RL 80 RX2 yX2_running wsX2_running) := goodIn_app (goodIn_of _ (by decide +kernel)) ggL_law_X2_running
set_option maxRecDepth 20000 in
theorem ggL_law_X2_faults : GoodIn wsL_law wsX2_faults := goodIn_r _ [194, 147, 146, 195, 196, 197, 198] (by decide +kernel) (by decide +kernel)
set_option maxRecDepth 20000 in
theorem gL_law_X2_faults : GoodIn wsL_law (wsV RL 84 RX2 yX2_faults wsX2_faults) := goodIn_app (goodIn_of _ (by decide +kernel)) ggL_law_X2_faults
theorem dL_law_0 : decode cL_law 0 = .ok (.new 7, 3) := by decide +kernel
theorem dL_law_3 : decode cL_law 3 = .ok (.dup, 1) := by decide +kernel
theorem dL_law_4 : decode cL_law 4 = .ok (.invokespecial 9, 3) := by decide +kernel
theorem dL_law_7 : decode cL_law 7 = .ok (.astore_n 1, 1) := by decide +kernel
theorem dL_law_8 : decode cL_law 8 = .ok (.new 10, 3) := by decide +kernel
theorem dL_law_11 : decode cL_law 11 = .ok (.dup, 1) := by decide +kernel
theorem dL_law_12 : decode cL_law 12 = .ok (.invokespecial 12, 3) := by decide +kernel
theorem dL_law_15 : decode cL_law 15 = .ok (.astore_n 2, 1) := by decide +kernel
theorem dL_law_16 : decode cL_law 16 = .ok (.iconst 0, 1) := by decide +kernel
theorem dL_law_17 : decode cL_law 17 = .ok (.istore_n 3, 1) := by decide +kernel
theorem dL_law_18 : decode cL_law 18 = .ok (.iload_n 3, 1) := by decide +kernel
theorem dL_law_19 : decode cL_law 19 = .ok (.aload_n 0, 1) := by decide +kernel
theorem dL_law_20 : decode cL_law 20 = .ok (.arraylength, 1) := by decide +kernel
theorem dL_law_21 : decode cL_law 21 = .ok (.iconst 5, 1) := by decide +kernel
theorem dL_law_22 : decode cL_law 22 = .ok (.isub, 1) := by decide +kernel
theorem dL_law_23 : decode cL_law 23 = .ok (.if_icmp .gt 669, 3) := by decide +kernel
theorem dL_law_26 : decode cL_law 26 = .ok (.aload_n 0, 1) := by decide +kernel
theorem dL_law_27 : decode cL_law 27 = .ok (.iload_n 3, 1) := by decide +kernel
theorem dL_law_28 : decode cL_law 28 = .ok (.iaload, 1) := by decide +kernel
theorem dL_law_29 : decode cL_law 29 = .ok (.bipush 31, 2) := by decide +kernel
theorem dL_law_31 : decode cL_law 31 = .ok (.iand, 1) := by decide +kernel
theorem dL_law_32 : decode cL_law 32 = .ok (.tableswitch 654 0 16 #[84, 97, 120, 143, 202, 255, 288, 347, 390, 424, 437, 460, 483, 516, 549, 602, 615], 84) := by decide +kernel
theorem dL_law_116 : decode cL_law 116 = .ok (.aload_n 1, 1) := by decide +kernel
theorem dL_law_117 : decode cL_law 117 = .ok (.invokevirtual 13, 3) := by decide +kernel
theorem dL_law_120 : decode cL_law 120 = .ok (.aload_n 2, 1) := by decide +kernel
theorem dL_law_121 : decode cL_law 121 = .ok (.invokevirtual 17, 3) := by decide +kernel
theorem dL_law_124 : decode cL_law 124 = .ok (.if_icmp .eq 562, 3) := by decide +kernel
theorem dL_law_127 : decode cL_law 127 = .ok (.iconst 0, 1) := by decide +kernel
theorem dL_law_128 : decode cL_law 128 = .ok (.ireturn, 1) := by decide +kernel
theorem dL_law_129 : decode cL_law 129 = .ok (.aload_n 1, 1) := by decide +kernel
theorem dL_law_130 : decode cL_law 130 = .ok (.aload_n 0, 1) := by decide +kernel
theorem dL_law_131 : decode cL_law 131 = .ok (.iload_n 3, 1) := by decide +kernel
theorem dL_law_132 : decode cL_law 132 = .ok (.iconst 1, 1) := by decide +kernel
theorem dL_law_133 : decode cL_law 133 = .ok (.iadd, 1) := by decide +kernel
theorem dL_law_134 : decode cL_law 134 = .ok (.iaload, 1) := by decide +kernel
theorem dL_law_135 : decode cL_law 135 = .ok (.invokevirtual 18, 3) := by decide +kernel
theorem dL_law_138 : decode cL_law 138 = .ok (.aload_n 2, 1) := by decide +kernel
theorem dL_law_139 : decode cL_law 139 = .ok (.aload_n 0, 1) := by decide +kernel
theorem dL_law_140 : decode cL_law 140 = .ok (.iload_n 3, 1) := by decide +kernel
theorem dL_law_141 : decode cL_law 141 = .ok (.iconst 1, 1) := by decide +kernel
theorem dL_law_142 : decode cL_law 142 = .ok (.iadd, 1) := by decide +kernel
theorem dL_law_143 : decode cL_law 143 = .ok (.iaload, 1) := by decide +kernel
theorem dL_law_144 : decode cL_law 144 = .ok (.invokevirtual 22, 3) := by decide +kernel
theorem dL_law_147 : decode cL_law 147 = .ok (.if_icmp .eq 539, 3) := by decide +kernel
theorem dL_law_150 : decode cL_law 150 = .ok (.iconst 0, 1) := by decide +kernel
theorem dL_law_151 : decode cL_law 151 = .ok (.ireturn, 1) := by decide +kernel
theorem dL_law_152 : decode cL_law 152 = .ok (.aload_n 1, 1) := by decide +kernel
theorem dL_law_153 : decode cL_law 153 = .ok (.aload_n 0, 1) := by decide +kernel
theorem dL_law_154 : decode cL_law 154 = .ok (.iload_n 3, 1) := by decide +kernel
theorem dL_law_155 : decode cL_law 155 = .ok (.iconst 1, 1) := by decide +kernel
theorem dL_law_156 : decode cL_law 156 = .ok (.iadd, 1) := by decide +kernel
theorem dL_law_157 : decode cL_law 157 = .ok (.iaload, 1) := by decide +kernel
theorem dL_law_158 : decode cL_law 158 = .ok (.invokevirtual 23, 3) := by decide +kernel
theorem dL_law_161 : decode cL_law 161 = .ok (.aload_n 2, 1) := by decide +kernel
theorem dL_law_162 : decode cL_law 162 = .ok (.aload_n 0, 1) := by decide +kernel
theorem dL_law_163 : decode cL_law 163 = .ok (.iload_n 3, 1) := by decide +kernel
theorem dL_law_164 : decode cL_law 164 = .ok (.iconst 1, 1) := by decide +kernel
theorem dL_law_165 : decode cL_law 165 = .ok (.iadd, 1) := by decide +kernel
theorem dL_law_166 : decode cL_law 166 = .ok (.iaload, 1) := by decide +kernel
theorem dL_law_167 : decode cL_law 167 = .ok (.invokevirtual 26, 3) := by decide +kernel
theorem dL_law_170 : decode cL_law 170 = .ok (.if_icmp .eq 516, 3) := by decide +kernel
theorem dL_law_173 : decode cL_law 173 = .ok (.iconst 0, 1) := by decide +kernel
theorem dL_law_174 : decode cL_law 174 = .ok (.ireturn, 1) := by decide +kernel
theorem dL_law_175 : decode cL_law 175 = .ok (.aload_n 1, 1) := by decide +kernel
theorem dL_law_176 : decode cL_law 176 = .ok (.aload_n 0, 1) := by decide +kernel
theorem dL_law_177 : decode cL_law 177 = .ok (.iload_n 3, 1) := by decide +kernel
theorem dL_law_178 : decode cL_law 178 = .ok (.iconst 1, 1) := by decide +kernel
theorem dL_law_179 : decode cL_law 179 = .ok (.iadd, 1) := by decide +kernel
theorem dL_law_180 : decode cL_law 180 = .ok (.iaload, 1) := by decide +kernel
theorem dL_law_181 : decode cL_law 181 = .ok (.aload_n 0, 1) := by decide +kernel
theorem dL_law_182 : decode cL_law 182 = .ok (.iload_n 3, 1) := by decide +kernel
theorem dL_law_183 : decode cL_law 183 = .ok (.iconst 2, 1) := by decide +kernel
theorem dL_law_184 : decode cL_law 184 = .ok (.iadd, 1) := by decide +kernel
theorem dL_law_185 : decode cL_law 185 = .ok (.iaload, 1) := by decide +kernel
theorem dL_law_186 : decode cL_law 186 = .ok (.aload_n 0, 1) := by decide +kernel
theorem dL_law_187 : decode cL_law 187 = .ok (.iload_n 3, 1) := by decide +kernel
theorem dL_law_188 : decode cL_law 188 = .ok (.iconst 3, 1) := by decide +kernel
theorem dL_law_189 : decode cL_law 189 = .ok (.iadd, 1) := by decide +kernel
theorem dL_law_190 : decode cL_law 190 = .ok (.iaload, 1) := by decide +kernel
theorem dL_law_191 : decode cL_law 191 = .ok (.ifCond .eq 7, 3) := by decide +kernel
theorem dL_law_194 : decode cL_law 194 = .ok (.iconst 1, 1) := by decide +kernel
theorem dL_law_195 : decode cL_law 195 = .ok (.goto 4, 3) := by decide +kernel
theorem dL_law_198 : decode cL_law 198 = .ok (.iconst 0, 1) := by decide +kernel
theorem dL_law_199 : decode cL_law 199 = .ok (.invokevirtual 27, 3) := by decide +kernel
theorem dL_law_202 : decode cL_law 202 = .ok (.aload_n 2, 1) := by decide +kernel
theorem dL_law_203 : decode cL_law 203 = .ok (.aload_n 0, 1) := by decide +kernel
theorem dL_law_204 : decode cL_law 204 = .ok (.iload_n 3, 1) := by decide +kernel
theorem dL_law_205 : decode cL_law 205 = .ok (.iconst 1, 1) := by decide +kernel
theorem dL_law_206 : decode cL_law 206 = .ok (.iadd, 1) := by decide +kernel
theorem dL_law_207 : decode cL_law 207 = .ok (.iaload, 1) := by decide +kernel
theorem dL_law_208 : decode cL_law 208 = .ok (.aload_n 0, 1) := by decide +kernel
theorem dL_law_209 : decode cL_law 209 = .ok (.iload_n 3, 1) := by decide +kernel
theorem dL_law_210 : decode cL_law 210 = .ok (.iconst 2, 1) := by decide +kernel
theorem dL_law_211 : decode cL_law 211 = .ok (.iadd, 1) := by decide +kernel
theorem dL_law_212 : decode cL_law 212 = .ok (.iaload, 1) := by decide +kernel
theorem dL_law_213 : decode cL_law 213 = .ok (.aload_n 0, 1) := by decide +kernel
theorem dL_law_214 : decode cL_law 214 = .ok (.iload_n 3, 1) := by decide +kernel
theorem dL_law_215 : decode cL_law 215 = .ok (.iconst 3, 1) := by decide +kernel
theorem dL_law_216 : decode cL_law 216 = .ok (.iadd, 1) := by decide +kernel
theorem dL_law_217 : decode cL_law 217 = .ok (.iaload, 1) := by decide +kernel
theorem dL_law_218 : decode cL_law 218 = .ok (.ifCond .eq 7, 3) := by decide +kernel
theorem dL_law_221 : decode cL_law 221 = .ok (.iconst 1, 1) := by decide +kernel
theorem dL_law_222 : decode cL_law 222 = .ok (.goto 4, 3) := by decide +kernel
theorem dL_law_225 : decode cL_law 225 = .ok (.iconst 0, 1) := by decide +kernel
theorem dL_law_226 : decode cL_law 226 = .ok (.invokevirtual 31, 3) := by decide +kernel
theorem dL_law_229 : decode cL_law 229 = .ok (.if_icmp .eq 457, 3) := by decide +kernel
theorem dL_law_232 : decode cL_law 232 = .ok (.iconst 0, 1) := by decide +kernel
theorem dL_law_233 : decode cL_law 233 = .ok (.ireturn, 1) := by decide +kernel
theorem dL_law_234 : decode cL_law 234 = .ok (.aload_n 1, 1) := by decide +kernel
theorem dL_law_235 : decode cL_law 235 = .ok (.aload_n 0, 1) := by decide +kernel
theorem dL_law_236 : decode cL_law 236 = .ok (.iload_n 3, 1) := by decide +kernel
theorem dL_law_237 : decode cL_law 237 = .ok (.iconst 1, 1) := by decide +kernel
theorem dL_law_238 : decode cL_law 238 = .ok (.iadd, 1) := by decide +kernel
theorem dL_law_239 : decode cL_law 239 = .ok (.iaload, 1) := by decide +kernel
theorem dL_law_240 : decode cL_law 240 = .ok (.aload_n 0, 1) := by decide +kernel
theorem dL_law_241 : decode cL_law 241 = .ok (.iload_n 3, 1) := by decide +kernel
theorem dL_law_242 : decode cL_law 242 = .ok (.iconst 2, 1) := by decide +kernel
theorem dL_law_243 : decode cL_law 243 = .ok (.iadd, 1) := by decide +kernel
theorem dL_law_244 : decode cL_law 244 = .ok (.iaload, 1) := by decide +kernel
theorem dL_law_245 : decode cL_law 245 = .ok (.aload_n 0, 1) := by decide +kernel
theorem dL_law_246 : decode cL_law 246 = .ok (.iload_n 3, 1) := by decide +kernel
theorem dL_law_247 : decode cL_law 247 = .ok (.iconst 3, 1) := by decide +kernel
theorem dL_law_248 : decode cL_law 248 = .ok (.iadd, 1) := by decide +kernel
theorem dL_law_249 : decode cL_law 249 = .ok (.iaload, 1) := by decide +kernel
theorem dL_law_250 : decode cL_law 250 = .ok (.aload_n 0, 1) := by decide +kernel
theorem dL_law_251 : decode cL_law 251 = .ok (.iload_n 3, 1) := by decide +kernel
theorem dL_law_252 : decode cL_law 252 = .ok (.iconst 4, 1) := by decide +kernel
theorem dL_law_253 : decode cL_law 253 = .ok (.iadd, 1) := by decide +kernel
theorem dL_law_254 : decode cL_law 254 = .ok (.iaload, 1) := by decide +kernel
theorem dL_law_255 : decode cL_law 255 = .ok (.invokevirtual 32, 3) := by decide +kernel
theorem dL_law_258 : decode cL_law 258 = .ok (.aload_n 2, 1) := by decide +kernel
theorem dL_law_259 : decode cL_law 259 = .ok (.aload_n 0, 1) := by decide +kernel
theorem dL_law_260 : decode cL_law 260 = .ok (.iload_n 3, 1) := by decide +kernel
theorem dL_law_261 : decode cL_law 261 = .ok (.iconst 1, 1) := by decide +kernel
theorem dL_law_262 : decode cL_law 262 = .ok (.iadd, 1) := by decide +kernel
theorem dL_law_263 : decode cL_law 263 = .ok (.iaload, 1) := by decide +kernel
theorem dL_law_264 : decode cL_law 264 = .ok (.aload_n 0, 1) := by decide +kernel
theorem dL_law_265 : decode cL_law 265 = .ok (.iload_n 3, 1) := by decide +kernel
theorem dL_law_266 : decode cL_law 266 = .ok (.iconst 2, 1) := by decide +kernel
theorem dL_law_267 : decode cL_law 267 = .ok (.iadd, 1) := by decide +kernel
theorem dL_law_268 : decode cL_law 268 = .ok (.iaload, 1) := by decide +kernel
theorem dL_law_269 : decode cL_law 269 = .ok (.aload_n 0, 1) := by decide +kernel
theorem dL_law_270 : decode cL_law 270 = .ok (.iload_n 3, 1) := by decide +kernel
theorem dL_law_271 : decode cL_law 271 = .ok (.iconst 3, 1) := by decide +kernel
theorem dL_law_272 : decode cL_law 272 = .ok (.iadd, 1) := by decide +kernel
theorem dL_law_273 : decode cL_law 273 = .ok (.iaload, 1) := by decide +kernel
theorem dL_law_274 : decode cL_law 274 = .ok (.aload_n 0, 1) := by decide +kernel
theorem dL_law_275 : decode cL_law 275 = .ok (.iload_n 3, 1) := by decide +kernel
theorem dL_law_276 : decode cL_law 276 = .ok (.iconst 4, 1) := by decide +kernel
theorem dL_law_277 : decode cL_law 277 = .ok (.iadd, 1) := by decide +kernel
theorem dL_law_278 : decode cL_law 278 = .ok (.iaload, 1) := by decide +kernel
theorem dL_law_279 : decode cL_law 279 = .ok (.invokevirtual 36, 3) := by decide +kernel
theorem dL_law_282 : decode cL_law 282 = .ok (.if_icmp .eq 404, 3) := by decide +kernel
theorem dL_law_285 : decode cL_law 285 = .ok (.iconst 0, 1) := by decide +kernel
theorem dL_law_286 : decode cL_law 286 = .ok (.ireturn, 1) := by decide +kernel
theorem dL_law_287 : decode cL_law 287 = .ok (.aload_n 1, 1) := by decide +kernel
theorem dL_law_288 : decode cL_law 288 = .ok (.aload_n 0, 1) := by decide +kernel
theorem dL_law_289 : decode cL_law 289 = .ok (.iload_n 3, 1) := by decide +kernel
theorem dL_law_290 : decode cL_law 290 = .ok (.iconst 1, 1) := by decide +kernel
theorem dL_law_291 : decode cL_law 291 = .ok (.iadd, 1) := by decide +kernel
theorem dL_law_292 : decode cL_law 292 = .ok (.iaload, 1) := by decide +kernel
theorem dL_law_293 : decode cL_law 293 = .ok (.aload_n 0, 1) := by decide +kernel
theorem dL_law_294 : decode cL_law 294 = .ok (.iload_n 3, 1) := by decide +kernel
theorem dL_law_295 : decode cL_law 295 = .ok (.iconst 2, 1) := by decide +kernel
theorem dL_law_296 : decode cL_law 296 = .ok (.iadd, 1) := by decide +kernel
theorem dL_law_297 : decode cL_law 297 = .ok (.iaload, 1) := by decide +kernel
theorem dL_law_298 : decode cL_law 298 = .ok (.invokevirtual 37, 3) := by decide +kernel
theorem dL_law_301 : decode cL_law 301 = .ok (.aload_n 2, 1) := by decide +kernel
theorem dL_law_302 : decode cL_law 302 = .ok (.aload_n 0, 1) := by decide +kernel
theorem dL_law_303 : decode cL_law 303 = .ok (.iload_n 3, 1) := by decide +kernel
theorem dL_law_304 : decode cL_law 304 = .ok (.iconst 1, 1) := by decide +kernel
theorem dL_law_305 : decode cL_law 305 = .ok (.iadd, 1) := by decide +kernel
theorem dL_law_306 : decode cL_law 306 = .ok (.iaload, 1) := by decide +kernel
theorem dL_law_307 : decode cL_law 307 = .ok (.aload_n 0, 1) := by decide +kernel
theorem dL_law_308 : decode cL_law 308 = .ok (.iload_n 3, 1) := by decide +kernel
theorem dL_law_309 : decode cL_law 309 = .ok (.iconst 2, 1) := by decide +kernel
theorem dL_law_310 : decode cL_law 310 = .ok (.iadd, 1) := by decide +kernel
theorem dL_law_311 : decode cL_law 311 = .ok (.iaload, 1) := by decide +kernel
theorem dL_law_312 : decode cL_law 312 = .ok (.invokevirtual 41, 3) := by decide +kernel
theorem dL_law_315 : decode cL_law 315 = .ok (.if_icmp .eq 371, 3) := by decide +kernel
theorem dL_law_318 : decode cL_law 318 = .ok (.iconst 0, 1) := by decide +kernel
theorem dL_law_319 : decode cL_law 319 = .ok (.ireturn, 1) := by decide +kernel
theorem dL_law_320 : decode cL_law 320 = .ok (.aload_n 1, 1) := by decide +kernel
theorem dL_law_321 : decode cL_law 321 = .ok (.aload_n 0, 1) := by decide +kernel
theorem dL_law_322 : decode cL_law 322 = .ok (.iload_n 3, 1) := by decide +kernel
theorem dL_law_323 : decode cL_law 323 = .ok (.iconst 1, 1) := by decide +kernel
theorem dL_law_324 : decode cL_law 324 = .ok (.iadd, 1) := by decide +kernel
theorem dL_law_325 : decode cL_law 325 = .ok (.iaload, 1) := by decide +kernel
theorem dL_law_326 : decode cL_law 326 = .ok (.aload_n 0, 1) := by decide +kernel
theorem dL_law_327 : decode cL_law 327 = .ok (.iload_n 3, 1) := by decide +kernel
theorem dL_law_328 : decode cL_law 328 = .ok (.iconst 2, 1) := by decide +kernel
theorem dL_law_329 : decode cL_law 329 = .ok (.iadd, 1) := by decide +kernel
theorem dL_law_330 : decode cL_law 330 = .ok (.iaload, 1) := by decide +kernel
theorem dL_law_331 : decode cL_law 331 = .ok (.aload_n 0, 1) := by decide +kernel
theorem dL_law_332 : decode cL_law 332 = .ok (.iload_n 3, 1) := by decide +kernel
theorem dL_law_333 : decode cL_law 333 = .ok (.iconst 3, 1) := by decide +kernel
theorem dL_law_334 : decode cL_law 334 = .ok (.iadd, 1) := by decide +kernel
theorem dL_law_335 : decode cL_law 335 = .ok (.iaload, 1) := by decide +kernel
theorem dL_law_336 : decode cL_law 336 = .ok (.ifCond .eq 7, 3) := by decide +kernel
theorem dL_law_339 : decode cL_law 339 = .ok (.iconst 1, 1) := by decide +kernel
theorem dL_law_340 : decode cL_law 340 = .ok (.goto 4, 3) := by decide +kernel
theorem dL_law_343 : decode cL_law 343 = .ok (.iconst 0, 1) := by decide +kernel
theorem dL_law_344 : decode cL_law 344 = .ok (.invokevirtual 42, 3) := by decide +kernel
theorem dL_law_347 : decode cL_law 347 = .ok (.aload_n 2, 1) := by decide +kernel
theorem dL_law_348 : decode cL_law 348 = .ok (.aload_n 0, 1) := by decide +kernel
theorem dL_law_349 : decode cL_law 349 = .ok (.iload_n 3, 1) := by decide +kernel
theorem dL_law_350 : decode cL_law 350 = .ok (.iconst 1, 1) := by decide +kernel
theorem dL_law_351 : decode cL_law 351 = .ok (.iadd, 1) := by decide +kernel
theorem dL_law_352 : decode cL_law 352 = .ok (.iaload, 1) := by decide +kernel
theorem dL_law_353 : decode cL_law 353 = .ok (.aload_n 0, 1) := by decide +kernel
theorem dL_law_354 : decode cL_law 354 = .ok (.iload_n 3, 1) := by decide +kernel
theorem dL_law_355 : decode cL_law 355 = .ok (.iconst 2, 1) := by decide +kernel
theorem dL_law_356 : decode cL_law 356 = .ok (.iadd, 1) := by decide +kernel
theorem dL_law_357 : decode cL_law 357 = .ok (.iaload, 1) := by decide +kernel
theorem dL_law_358 : decode cL_law 358 = .ok (.aload_n 0, 1) := by decide +kernel
theorem dL_law_359 : decode cL_law 359 = .ok (.iload_n 3, 1) := by decide +kernel
theorem dL_law_360 : decode cL_law 360 = .ok (.iconst 3, 1) := by decide +kernel
theorem dL_law_361 : decode cL_law 361 = .ok (.iadd, 1) := by decide +kernel
theorem dL_law_362 : decode cL_law 362 = .ok (.iaload, 1) := by decide +kernel
theorem dL_law_363 : decode cL_law 363 = .ok (.ifCond .eq 7, 3) := by decide +kernel
theorem dL_law_366 : decode cL_law 366 = .ok (.iconst 1, 1) := by decide +kernel
theorem dL_law_367 : decode cL_law 367 = .ok (.goto 4, 3) := by decide +kernel
theorem dL_law_370 : decode cL_law 370 = .ok (.iconst 0, 1) := by decide +kernel
theorem dL_law_371 : decode cL_law 371 = .ok (.invokevirtual 45, 3) := by decide +kernel
theorem dL_law_374 : decode cL_law 374 = .ok (.if_icmp .eq 312, 3) := by decide +kernel
theorem dL_law_377 : decode cL_law 377 = .ok (.iconst 0, 1) := by decide +kernel
theorem dL_law_378 : decode cL_law 378 = .ok (.ireturn, 1) := by decide +kernel
theorem dL_law_379 : decode cL_law 379 = .ok (.aload_n 1, 1) := by decide +kernel
theorem dL_law_380 : decode cL_law 380 = .ok (.aload_n 0, 1) := by decide +kernel
theorem dL_law_381 : decode cL_law 381 = .ok (.iload_n 3, 1) := by decide +kernel
theorem dL_law_382 : decode cL_law 382 = .ok (.iconst 1, 1) := by decide +kernel
theorem dL_law_383 : decode cL_law 383 = .ok (.iadd, 1) := by decide +kernel
theorem dL_law_384 : decode cL_law 384 = .ok (.iaload, 1) := by decide +kernel
theorem dL_law_385 : decode cL_law 385 = .ok (.aload_n 0, 1) := by decide +kernel
theorem dL_law_386 : decode cL_law 386 = .ok (.iload_n 3, 1) := by decide +kernel
theorem dL_law_387 : decode cL_law 387 = .ok (.iconst 2, 1) := by decide +kernel
theorem dL_law_388 : decode cL_law 388 = .ok (.iadd, 1) := by decide +kernel
theorem dL_law_389 : decode cL_law 389 = .ok (.iaload, 1) := by decide +kernel
theorem dL_law_390 : decode cL_law 390 = .ok (.aload_n 0, 1) := by decide +kernel
theorem dL_law_391 : decode cL_law 391 = .ok (.iload_n 3, 1) := by decide +kernel
theorem dL_law_392 : decode cL_law 392 = .ok (.iconst 3, 1) := by decide +kernel
theorem dL_law_393 : decode cL_law 393 = .ok (.iadd, 1) := by decide +kernel
theorem dL_law_394 : decode cL_law 394 = .ok (.iaload, 1) := by decide +kernel
theorem dL_law_395 : decode cL_law 395 = .ok (.invokevirtual 46, 3) := by decide +kernel
theorem dL_law_398 : decode cL_law 398 = .ok (.aload_n 2, 1) := by decide +kernel
theorem dL_law_399 : decode cL_law 399 = .ok (.aload_n 0, 1) := by decide +kernel
theorem dL_law_400 : decode cL_law 400 = .ok (.iload_n 3, 1) := by decide +kernel
theorem dL_law_401 : decode cL_law 401 = .ok (.iconst 1, 1) := by decide +kernel
theorem dL_law_402 : decode cL_law 402 = .ok (.iadd, 1) := by decide +kernel
theorem dL_law_403 : decode cL_law 403 = .ok (.iaload, 1) := by decide +kernel
theorem dL_law_404 : decode cL_law 404 = .ok (.aload_n 0, 1) := by decide +kernel
theorem dL_law_405 : decode cL_law 405 = .ok (.iload_n 3, 1) := by decide +kernel
theorem dL_law_406 : decode cL_law 406 = .ok (.iconst 2, 1) := by decide +kernel
theorem dL_law_407 : decode cL_law 407 = .ok (.iadd, 1) := by decide +kernel
theorem dL_law_408 : decode cL_law 408 = .ok (.iaload, 1) := by decide +kernel
theorem dL_law_409 : decode cL_law 409 = .ok (.aload_n 0, 1) := by decide +kernel
theorem dL_law_410 : decode cL_law 410 = .ok (.iload_n 3, 1) := by decide +kernel
theorem dL_law_411 : decode cL_law 411 = .ok (.iconst 3, 1) := by decide +kernel
theorem dL_law_412 : decode cL_law 412 = .ok (.iadd, 1) := by decide +kernel
theorem dL_law_413 : decode cL_law 413 = .ok (.iaload, 1) := by decide +kernel
theorem dL_law_414 : decode cL_law 414 = .ok (.invokevirtual 50, 3) := by decide +kernel
theorem dL_law_417 : decode cL_law 417 = .ok (.if_icmp .eq 269, 3) := by decide +kernel
theorem dL_law_420 : decode cL_law 420 = .ok (.iconst 0, 1) := by decide +kernel
theorem dL_law_421 : decode cL_law 421 = .ok (.ireturn, 1) := by decide +kernel
theorem dL_law_422 : decode cL_law 422 = .ok (.aload_n 1, 1) := by decide +kernel
theorem dL_law_423 : decode cL_law 423 = .ok (.aload_n 0, 1) := by decide +kernel
theorem dL_law_424 : decode cL_law 424 = .ok (.iload_n 3, 1) := by decide +kernel
theorem dL_law_425 : decode cL_law 425 = .ok (.iconst 1, 1) := by decide +kernel
theorem dL_law_426 : decode cL_law 426 = .ok (.iadd, 1) := by decide +kernel
theorem dL_law_427 : decode cL_law 427 = .ok (.iaload, 1) := by decide +kernel
theorem dL_law_428 : decode cL_law 428 = .ok (.aload_n 0, 1) := by decide +kernel
theorem dL_law_429 : decode cL_law 429 = .ok (.iload_n 3, 1) := by decide +kernel
theorem dL_law_430 : decode cL_law 430 = .ok (.iconst 2, 1) := by decide +kernel
theorem dL_law_431 : decode cL_law 431 = .ok (.iadd, 1) := by decide +kernel
theorem dL_law_432 : decode cL_law 432 = .ok (.iaload, 1) := by decide +kernel
theorem dL_law_433 : decode cL_law 433 = .ok (.invokevirtual 51, 3) := by decide +kernel
theorem dL_law_436 : decode cL_law 436 = .ok (.aload_n 2, 1) := by decide +kernel
theorem dL_law_437 : decode cL_law 437 = .ok (.aload_n 0, 1) := by decide +kernel
theorem dL_law_438 : decode cL_law 438 = .ok (.iload_n 3, 1) := by decide +kernel
theorem dL_law_439 : decode cL_law 439 = .ok (.iconst 1, 1) := by decide +kernel
theorem dL_law_440 : decode cL_law 440 = .ok (.iadd, 1) := by decide +kernel
theorem dL_law_441 : decode cL_law 441 = .ok (.iaload, 1) := by decide +kernel
theorem dL_law_442 : decode cL_law 442 = .ok (.aload_n 0, 1) := by decide +kernel
theorem dL_law_443 : decode cL_law 443 = .ok (.iload_n 3, 1) := by decide +kernel
theorem dL_law_444 : decode cL_law 444 = .ok (.iconst 2, 1) := by decide +kernel
theorem dL_law_445 : decode cL_law 445 = .ok (.iadd, 1) := by decide +kernel
theorem dL_law_446 : decode cL_law 446 = .ok (.iaload, 1) := by decide +kernel
theorem dL_law_447 : decode cL_law 447 = .ok (.invokevirtual 55, 3) := by decide +kernel
theorem dL_law_450 : decode cL_law 450 = .ok (.lcmp, 1) := by decide +kernel
theorem dL_law_451 : decode cL_law 451 = .ok (.ifCond .eq 235, 3) := by decide +kernel
theorem dL_law_454 : decode cL_law 454 = .ok (.iconst 0, 1) := by decide +kernel
theorem dL_law_455 : decode cL_law 455 = .ok (.ireturn, 1) := by decide +kernel
theorem dL_law_456 : decode cL_law 456 = .ok (.aload_n 1, 1) := by decide +kernel
theorem dL_law_457 : decode cL_law 457 = .ok (.invokevirtual 56, 3) := by decide +kernel
theorem dL_law_460 : decode cL_law 460 = .ok (.aload_n 2, 1) := by decide +kernel
theorem dL_law_461 : decode cL_law 461 = .ok (.invokevirtual 59, 3) := by decide +kernel
theorem dL_law_464 : decode cL_law 464 = .ok (.if_icmp .eq 222, 3) := by decide +kernel
theorem dL_law_467 : decode cL_law 467 = .ok (.iconst 0, 1) := by decide +kernel
theorem dL_law_468 : decode cL_law 468 = .ok (.ireturn, 1) := by decide +kernel
theorem dL_law_469 : decode cL_law 469 = .ok (.aload_n 1, 1) := by decide +kernel
theorem dL_law_470 : decode cL_law 470 = .ok (.aload_n 0, 1) := by decide +kernel
theorem dL_law_471 : decode cL_law 471 = .ok (.iload_n 3, 1) := by decide +kernel
theorem dL_law_472 : decode cL_law 472 = .ok (.iconst 1, 1) := by decide +kernel
theorem dL_law_473 : decode cL_law 473 = .ok (.iadd, 1) := by decide +kernel
theorem dL_law_474 : decode cL_law 474 = .ok (.iaload, 1) := by decide +kernel
theorem dL_law_475 : decode cL_law 475 = .ok (.invokevirtual 60, 3) := by decide +kernel
theorem dL_law_478 : decode cL_law 478 = .ok (.aload_n 2, 1) := by decide +kernel
theorem dL_law_479 : decode cL_law 479 = .ok (.aload_n 0, 1) := by decide +kernel
theorem dL_law_480 : decode cL_law 480 = .ok (.iload_n 3, 1) := by decide +kernel
theorem dL_law_481 : decode cL_law 481 = .ok (.iconst 1, 1) := by decide +kernel
theorem dL_law_482 : decode cL_law 482 = .ok (.iadd, 1) := by decide +kernel
theorem dL_law_483 : decode cL_law 483 = .ok (.iaload, 1) := by decide +kernel
theorem dL_law_484 : decode cL_law 484 = .ok (.invokevirtual 63, 3) := by decide +kernel
theorem dL_law_487 : decode cL_law 487 = .ok (.if_icmp .eq 199, 3) := by decide +kernel
theorem dL_law_490 : decode cL_law 490 = .ok (.iconst 0, 1) := by decide +kernel
theorem dL_law_491 : decode cL_law 491 = .ok (.ireturn, 1) := by decide +kernel
theorem dL_law_492 : decode cL_law 492 = .ok (.aload_n 1, 1) := by decide +kernel
theorem dL_law_493 : decode cL_law 493 = .ok (.aload_n 0, 1) := by decide +kernel
theorem dL_law_494 : decode cL_law 494 = .ok (.iload_n 3, 1) := by decide +kernel
theorem dL_law_495 : decode cL_law 495 = .ok (.iconst 1, 1) := by decide +kernel
theorem dL_law_496 : decode cL_law 496 = .ok (.iadd, 1) := by decide +kernel
theorem dL_law_497 : decode cL_law 497 = .ok (.iaload, 1) := by decide +kernel
theorem dL_law_498 : decode cL_law 498 = .ok (.invokevirtual 64, 3) := by decide +kernel
theorem dL_law_501 : decode cL_law 501 = .ok (.aload_n 2, 1) := by decide +kernel
theorem dL_law_502 : decode cL_law 502 = .ok (.aload_n 0, 1) := by decide +kernel
theorem dL_law_503 : decode cL_law 503 = .ok (.iload_n 3, 1) := by decide +kernel
theorem dL_law_504 : decode cL_law 504 = .ok (.iconst 1, 1) := by decide +kernel
theorem dL_law_505 : decode cL_law 505 = .ok (.iadd, 1) := by decide +kernel
theorem dL_law_506 : decode cL_law 506 = .ok (.iaload, 1) := by decide +kernel
theorem dL_law_507 : decode cL_law 507 = .ok (.invokevirtual 67, 3) := by decide +kernel
theorem dL_law_510 : decode cL_law 510 = .ok (.if_icmp .eq 176, 3) := by decide +kernel
theorem dL_law_513 : decode cL_law 513 = .ok (.iconst 0, 1) := by decide +kernel
theorem dL_law_514 : decode cL_law 514 = .ok (.ireturn, 1) := by decide +kernel
theorem dL_law_515 : decode cL_law 515 = .ok (.aload_n 1, 1) := by decide +kernel
theorem dL_law_516 : decode cL_law 516 = .ok (.aload_n 0, 1) := by decide +kernel
theorem dL_law_517 : decode cL_law 517 = .ok (.iload_n 3, 1) := by decide +kernel
theorem dL_law_518 : decode cL_law 518 = .ok (.iconst 1, 1) := by decide +kernel
theorem dL_law_519 : decode cL_law 519 = .ok (.iadd, 1) := by decide +kernel
theorem dL_law_520 : decode cL_law 520 = .ok (.iaload, 1) := by decide +kernel
theorem dL_law_521 : decode cL_law 521 = .ok (.aload_n 0, 1) := by decide +kernel
theorem dL_law_522 : decode cL_law 522 = .ok (.iload_n 3, 1) := by decide +kernel
theorem dL_law_523 : decode cL_law 523 = .ok (.iconst 2, 1) := by decide +kernel
theorem dL_law_524 : decode cL_law 524 = .ok (.iadd, 1) := by decide +kernel
theorem dL_law_525 : decode cL_law 525 = .ok (.iaload, 1) := by decide +kernel
theorem dL_law_526 : decode cL_law 526 = .ok (.invokevirtual 68, 3) := by decide +kernel
theorem dL_law_529 : decode cL_law 529 = .ok (.aload_n 2, 1) := by decide +kernel
theorem dL_law_530 : decode cL_law 530 = .ok (.aload_n 0, 1) := by decide +kernel
theorem dL_law_531 : decode cL_law 531 = .ok (.iload_n 3, 1) := by decide +kernel
theorem dL_law_532 : decode cL_law 532 = .ok (.iconst 1, 1) := by decide +kernel
theorem dL_law_533 : decode cL_law 533 = .ok (.iadd, 1) := by decide +kernel
theorem dL_law_534 : decode cL_law 534 = .ok (.iaload, 1) := by decide +kernel
theorem dL_law_535 : decode cL_law 535 = .ok (.aload_n 0, 1) := by decide +kernel
theorem dL_law_536 : decode cL_law 536 = .ok (.iload_n 3, 1) := by decide +kernel
theorem dL_law_537 : decode cL_law 537 = .ok (.iconst 2, 1) := by decide +kernel
theorem dL_law_538 : decode cL_law 538 = .ok (.iadd, 1) := by decide +kernel
theorem dL_law_539 : decode cL_law 539 = .ok (.iaload, 1) := by decide +kernel
theorem dL_law_540 : decode cL_law 540 = .ok (.invokevirtual 71, 3) := by decide +kernel
theorem dL_law_543 : decode cL_law 543 = .ok (.if_icmp .eq 143, 3) := by decide +kernel
theorem dL_law_546 : decode cL_law 546 = .ok (.iconst 0, 1) := by decide +kernel
theorem dL_law_547 : decode cL_law 547 = .ok (.ireturn, 1) := by decide +kernel
theorem dL_law_548 : decode cL_law 548 = .ok (.aload_n 1, 1) := by decide +kernel
theorem dL_law_549 : decode cL_law 549 = .ok (.aload_n 0, 1) := by decide +kernel
theorem dL_law_550 : decode cL_law 550 = .ok (.iload_n 3, 1) := by decide +kernel
theorem dL_law_551 : decode cL_law 551 = .ok (.iconst 1, 1) := by decide +kernel
theorem dL_law_552 : decode cL_law 552 = .ok (.iadd, 1) := by decide +kernel
theorem dL_law_553 : decode cL_law 553 = .ok (.iaload, 1) := by decide +kernel
theorem dL_law_554 : decode cL_law 554 = .ok (.aload_n 0, 1) := by decide +kernel
theorem dL_law_555 : decode cL_law 555 = .ok (.iload_n 3, 1) := by decide +kernel
theorem dL_law_556 : decode cL_law 556 = .ok (.iconst 2, 1) := by decide +kernel
theorem dL_law_557 : decode cL_law 557 = .ok (.iadd, 1) := by decide +kernel
theorem dL_law_558 : decode cL_law 558 = .ok (.iaload, 1) := by decide +kernel
theorem dL_law_559 : decode cL_law 559 = .ok (.invokevirtual 72, 3) := by decide +kernel
theorem dL_law_562 : decode cL_law 562 = .ok (.aload_n 2, 1) := by decide +kernel
theorem dL_law_563 : decode cL_law 563 = .ok (.aload_n 0, 1) := by decide +kernel
theorem dL_law_564 : decode cL_law 564 = .ok (.iload_n 3, 1) := by decide +kernel
theorem dL_law_565 : decode cL_law 565 = .ok (.iconst 1, 1) := by decide +kernel
theorem dL_law_566 : decode cL_law 566 = .ok (.iadd, 1) := by decide +kernel
theorem dL_law_567 : decode cL_law 567 = .ok (.iaload, 1) := by decide +kernel
theorem dL_law_568 : decode cL_law 568 = .ok (.aload_n 0, 1) := by decide +kernel
theorem dL_law_569 : decode cL_law 569 = .ok (.iload_n 3, 1) := by decide +kernel
theorem dL_law_570 : decode cL_law 570 = .ok (.iconst 2, 1) := by decide +kernel
theorem dL_law_571 : decode cL_law 571 = .ok (.iadd, 1) := by decide +kernel
theorem dL_law_572 : decode cL_law 572 = .ok (.iaload, 1) := by decide +kernel
theorem dL_law_573 : decode cL_law 573 = .ok (.invokevirtual 75, 3) := by decide +kernel
theorem dL_law_576 : decode cL_law 576 = .ok (.if_icmp .eq 110, 3) := by decide +kernel
theorem dL_law_579 : decode cL_law 579 = .ok (.iconst 0, 1) := by decide +kernel
theorem dL_law_580 : decode cL_law 580 = .ok (.ireturn, 1) := by decide +kernel
theorem dL_law_581 : decode cL_law 581 = .ok (.aload_n 1, 1) := by decide +kernel
theorem dL_law_582 : decode cL_law 582 = .ok (.aload_n 0, 1) := by decide +kernel
theorem dL_law_583 : decode cL_law 583 = .ok (.iload_n 3, 1) := by decide +kernel
theorem dL_law_584 : decode cL_law 584 = .ok (.iconst 1, 1) := by decide +kernel
theorem dL_law_585 : decode cL_law 585 = .ok (.iadd, 1) := by decide +kernel
theorem dL_law_586 : decode cL_law 586 = .ok (.iaload, 1) := by decide +kernel
theorem dL_law_587 : decode cL_law 587 = .ok (.aload_n 0, 1) := by decide +kernel
theorem dL_law_588 : decode cL_law 588 = .ok (.iload_n 3, 1) := by decide +kernel
theorem dL_law_589 : decode cL_law 589 = .ok (.iconst 2, 1) := by decide +kernel
theorem dL_law_590 : decode cL_law 590 = .ok (.iadd, 1) := by decide +kernel
theorem dL_law_591 : decode cL_law 591 = .ok (.iaload, 1) := by decide +kernel
theorem dL_law_592 : decode cL_law 592 = .ok (.aload_n 0, 1) := by decide +kernel
theorem dL_law_593 : decode cL_law 593 = .ok (.iload_n 3, 1) := by decide +kernel
theorem dL_law_594 : decode cL_law 594 = .ok (.iconst 3, 1) := by decide +kernel
theorem dL_law_595 : decode cL_law 595 = .ok (.iadd, 1) := by decide +kernel
theorem dL_law_596 : decode cL_law 596 = .ok (.iaload, 1) := by decide +kernel
theorem dL_law_597 : decode cL_law 597 = .ok (.aload_n 0, 1) := by decide +kernel
theorem dL_law_598 : decode cL_law 598 = .ok (.iload_n 3, 1) := by decide +kernel
theorem dL_law_599 : decode cL_law 599 = .ok (.iconst 4, 1) := by decide +kernel
theorem dL_law_600 : decode cL_law 600 = .ok (.iadd, 1) := by decide +kernel
theorem dL_law_601 : decode cL_law 601 = .ok (.iaload, 1) := by decide +kernel
theorem dL_law_602 : decode cL_law 602 = .ok (.invokevirtual 76, 3) := by decide +kernel
theorem dL_law_605 : decode cL_law 605 = .ok (.aload_n 2, 1) := by decide +kernel
theorem dL_law_606 : decode cL_law 606 = .ok (.aload_n 0, 1) := by decide +kernel
theorem dL_law_607 : decode cL_law 607 = .ok (.iload_n 3, 1) := by decide +kernel
theorem dL_law_608 : decode cL_law 608 = .ok (.iconst 1, 1) := by decide +kernel
theorem dL_law_609 : decode cL_law 609 = .ok (.iadd, 1) := by decide +kernel
theorem dL_law_610 : decode cL_law 610 = .ok (.iaload, 1) := by decide +kernel
theorem dL_law_611 : decode cL_law 611 = .ok (.aload_n 0, 1) := by decide +kernel
theorem dL_law_612 : decode cL_law 612 = .ok (.iload_n 3, 1) := by decide +kernel
theorem dL_law_613 : decode cL_law 613 = .ok (.iconst 2, 1) := by decide +kernel
theorem dL_law_614 : decode cL_law 614 = .ok (.iadd, 1) := by decide +kernel
theorem dL_law_615 : decode cL_law 615 = .ok (.iaload, 1) := by decide +kernel
theorem dL_law_616 : decode cL_law 616 = .ok (.aload_n 0, 1) := by decide +kernel
theorem dL_law_617 : decode cL_law 617 = .ok (.iload_n 3, 1) := by decide +kernel
theorem dL_law_618 : decode cL_law 618 = .ok (.iconst 3, 1) := by decide +kernel
theorem dL_law_619 : decode cL_law 619 = .ok (.iadd, 1) := by decide +kernel
theorem dL_law_620 : decode cL_law 620 = .ok (.iaload, 1) := by decide +kernel
theorem dL_law_621 : decode cL_law 621 = .ok (.aload_n 0, 1) := by decide +kernel
theorem dL_law_622 : decode cL_law 622 = .ok (.iload_n 3, 1) := by decide +kernel
theorem dL_law_623 : decode cL_law 623 = .ok (.iconst 4, 1) := by decide +kernel
theorem dL_law_624 : decode cL_law 624 = .ok (.iadd, 1) := by decide +kernel
theorem dL_law_625 : decode cL_law 625 = .ok (.iaload, 1) := by decide +kernel
theorem dL_law_626 : decode cL_law 626 = .ok (.invokevirtual 79, 3) := by decide +kernel
theorem dL_law_629 : decode cL_law 629 = .ok (.if_icmp .eq 57, 3) := by decide +kernel
theorem dL_law_632 : decode cL_law 632 = .ok (.iconst 0, 1) := by decide +kernel
theorem dL_law_633 : decode cL_law 633 = .ok (.ireturn, 1) := by decide +kernel
theorem dL_law_634 : decode cL_law 634 = .ok (.aload_n 1, 1) := by decide +kernel
theorem dL_law_635 : decode cL_law 635 = .ok (.invokevirtual 80, 3) := by decide +kernel
theorem dL_law_638 : decode cL_law 638 = .ok (.aload_n 2, 1) := by decide +kernel
theorem dL_law_639 : decode cL_law 639 = .ok (.invokevirtual 83, 3) := by decide +kernel
theorem dL_law_642 : decode cL_law 642 = .ok (.if_icmp .eq 44, 3) := by decide +kernel
theorem dL_law_645 : decode cL_law 645 = .ok (.iconst 0, 1) := by decide +kernel
theorem dL_law_646 : decode cL_law 646 = .ok (.ireturn, 1) := by decide +kernel
theorem dL_law_647 : decode cL_law 647 = .ok (.aload_n 1, 1) := by decide +kernel
theorem dL_law_648 : decode cL_law 648 = .ok (.aload_n 0, 1) := by decide +kernel
theorem dL_law_649 : decode cL_law 649 = .ok (.iload_n 3, 1) := by decide +kernel
theorem dL_law_650 : decode cL_law 650 = .ok (.iconst 1, 1) := by decide +kernel
theorem dL_law_651 : decode cL_law 651 = .ok (.iadd, 1) := by decide +kernel
theorem dL_law_652 : decode cL_law 652 = .ok (.iaload, 1) := by decide +kernel
theorem dL_law_653 : decode cL_law 653 = .ok (.ifCond .eq 7, 3) := by decide +kernel
theorem dL_law_656 : decode cL_law 656 = .ok (.iconst 1, 1) := by decide +kernel
theorem dL_law_657 : decode cL_law 657 = .ok (.goto 4, 3) := by decide +kernel
theorem dL_law_660 : decode cL_law 660 = .ok (.iconst 0, 1) := by decide +kernel
theorem dL_law_661 : decode cL_law 661 = .ok (.invokevirtual 84, 3) := by decide +kernel
theorem dL_law_664 : decode cL_law 664 = .ok (.aload_n 2, 1) := by decide +kernel
theorem dL_law_665 : decode cL_law 665 = .ok (.aload_n 0, 1) := by decide +kernel
theorem dL_law_666 : decode cL_law 666 = .ok (.iload_n 3, 1) := by decide +kernel
theorem dL_law_667 : decode cL_law 667 = .ok (.iconst 1, 1) := by decide +kernel
theorem dL_law_668 : decode cL_law 668 = .ok (.iadd, 1) := by decide +kernel
theorem dL_law_669 : decode cL_law 669 = .ok (.iaload, 1) := by decide +kernel
theorem dL_law_670 : decode cL_law 670 = .ok (.ifCond .eq 7, 3) := by decide +kernel
theorem dL_law_673 : decode cL_law 673 = .ok (.iconst 1, 1) := by decide +kernel
theorem dL_law_674 : decode cL_law 674 = .ok (.goto 4, 3) := by decide +kernel
theorem dL_law_677 : decode cL_law 677 = .ok (.iconst 0, 1) := by decide +kernel
theorem dL_law_678 : decode cL_law 678 = .ok (.invokevirtual 88, 3) := by decide +kernel
theorem dL_law_681 : decode cL_law 681 = .ok (.if_icmp .eq 5, 3) := by decide +kernel
theorem dL_law_684 : decode cL_law 684 = .ok (.iconst 0, 1) := by decide +kernel
theorem dL_law_685 : decode cL_law 685 = .ok (.ireturn, 1) := by decide +kernel
theorem dL_law_686 : decode cL_law 686 = .ok (.iinc 3 5, 3) := by decide +kernel
theorem dL_law_689 : decode cL_law 689 = .ok (.goto (-671), 3) := by decide +kernel
theorem dL_law_692 : decode cL_law 692 = .ok (.iconst 1, 1) := by decide +kernel
theorem dL_law_693 : decode cL_law 693 = .ok (.ireturn, 1) := by decide +kernel
abbrev vwCl : List vw_C := [(RX0, TX0, 4), (RX1, TX1, 2), (RX2, TX2, 4), (RX3, TX3, 0)]
/-- the objects of ForkedPages$Space, kind 0: what each holds, by its address -/
structure wK_O_Space where
  f_runs : Nat → Int32
  f_mapped : Nat → Int64
  f_frames : Nat → Option Nat
  f_kinds : Nat → Option Nat
/-- the objects of ForkedPages$Store, kind 1: what each holds, by its address -/
structure wK_O_Store where
  f_words : Nat → Option Nat
  f_counts : Nat → Option Nat
/-- the objects of ForkedPages, kind 2: what each holds, by its address -/
structure wK_O_ForkedPages where
  f_spaces : Nat → Option Nat
  f_store : Nat → Option Nat
  f_allFaults : Nat → Int32
  f_copyFaults : Nat → Int32
/-- the objects of ForkedPagesModel, kind 3: what each holds, by its address -/
structure wK_O_ForkedPagesModel
/-- the arrays of kind 4: what each holds, by its address -/
structure wK_R_I where
  len : Nat → Nat
  row : Nat → Nat → Int32
/-- the arrays of kind 5: what each holds, by its address -/
structure wK_R_Space where
  len : Nat → Nat
  row : Nat → Nat → Option Nat
/-- the pool: the addresses, the kind of each, and the kinds -/
structure wPS where
  L : List Nat
  K : Nat → Nat
  O_Space : wK_O_Space
  O_Store : wK_O_Store
  O_ForkedPages : wK_O_ForkedPages
  O_ForkedPagesModel : wK_O_ForkedPagesModel
  R_I : wK_R_I
  R_Space : wK_R_Space
/-- the empty pool -/
abbrev wP0 : wPS := { L := [], K := (fun _ => 0), O_Space := { f_runs := (fun _ => 0), f_mapped := (fun _ => 0), f_frames := (fun _ => none), f_kinds := (fun _ => none) }, O_Store := { f_words := (fun _ => none), f_counts := (fun _ => none) }, O_ForkedPages := { f_spaces := (fun _ => none), f_store := (fun _ => none), f_allFaults := (fun _ => 0), f_copyFaults := (fun _ => 0) }, O_ForkedPagesModel := ⟨⟩, R_I := { len := (fun _ => 0), row := (fun _ _ => 0) }, R_Space := { len := (fun _ => 0), row := (fun _ _ => none) } }
/-- the pool's rows by their kinds -/
abbrev wPF (cyI : ClassId) (cyOe8b87 : ClassId) (S : wPS) : Nat → va_E := fun a => if S.K a = 0 then .inr (0, [.int (S.O_Space.f_runs a), .long (S.O_Space.f_mapped a), va_rf (S.O_Space.f_frames a), va_rf (S.O_Space.f_kinds a)]) else if S.K a = 1 then .inr (1, [va_rf (S.O_Store.f_words a), va_rf (S.O_Store.f_counts a)]) else if S.K a = 2 then .inr (2, [va_rf (S.O_ForkedPages.f_spaces a), va_rf (S.O_ForkedPages.f_store a), .int (S.O_ForkedPages.f_allFaults a), .int (S.O_ForkedPages.f_copyFaults a)]) else if S.K a = 3 then .inr (3, []) else if S.K a = 4 then .inl (cyI, S.R_I.len a, .inl (S.R_I.row a)) else .inl (cyOe8b87, S.R_Space.len a, .inr (.inr (.inr (.inr (S.R_Space.row a)))))
theorem wAt_O_Space (cyI : ClassId) (cyOe8b87 : ClassId) (S : wPS) {a : Nat} (h : S.K a = 0) : wPF cyI cyOe8b87 S a = .inr (0, [.int (S.O_Space.f_runs a), .long (S.O_Space.f_mapped a), va_rf (S.O_Space.f_frames a), va_rf (S.O_Space.f_kinds a)]) := by simp [wPF, h]
theorem wGt_O_Space (cyI : ClassId) (cyOe8b87 : ClassId) (X : va_W) (S : wPS) {a : Nat} (hL : a ∈ S.L) (h : S.K a = 0) : ∃ k : Nat, (X ++ va_pl S.L (wPF cyI cyOe8b87 S))[k]? = some (a, wPF cyI cyOe8b87 S a) ∧ (X ++ va_pl S.L (wPF cyI cyOe8b87 S))[k]? = some (a, .inr (0, [.int (S.O_Space.f_runs a), .long (S.O_Space.f_mapped a), va_rf (S.O_Space.f_frames a), va_rf (S.O_Space.f_kinds a)])) := by
  obtain ⟨k, hk⟩ := va_pl_get (X := X) (f := wPF cyI cyOe8b87 S) hL
  exact ⟨k, hk, hk.trans (congrArg (fun e => some (a, e)) (wAt_O_Space cyI cyOe8b87 S h))⟩
theorem wSt_O_Space_f_runs (cyI : ClassId) (cyOe8b87 : ClassId) (S : wPS) {a : Nat} (h : S.K a = 0) (v : Int32) (b : Nat) : va_up (wPF cyI cyOe8b87 S) a (.inr (0, [.int v, .long (S.O_Space.f_mapped a), va_rf (S.O_Space.f_frames a), va_rf (S.O_Space.f_kinds a)])) b = wPF cyI cyOe8b87 { S with O_Space := { S.O_Space with f_runs := va_up S.O_Space.f_runs a v } } b := by by_cases hb : b = a <;> first | (simp only [wPF, va_up_ne _ _ hb]; done) | (simp only [wPF, va_up, if_neg hb]; done) | simp [wPF, va_re, va_up, va_rf, hb, h]
theorem wPu_O_Space_f_runs (cyI : ClassId) (cyOe8b87 : ClassId) (X : va_W) (S : wPS) {A : Nat → Prop} {a k : Nat} (hD : va_D A (X ++ va_pl S.L (wPF cyI cyOe8b87 S))) (hL : a ∈ S.L) (h : S.K a = 0) (hk : (X ++ va_pl S.L (wPF cyI cyOe8b87 S))[k]? = some (a, wPF cyI cyOe8b87 S a)) (v : Int32) : (X ++ va_pl S.L (wPF cyI cyOe8b87 S)).set k (a, .inr (0, [.int v, .long (S.O_Space.f_mapped a), va_rf (S.O_Space.f_frames a), va_rf (S.O_Space.f_kinds a)])) = X ++ va_pl S.L (wPF cyI cyOe8b87 { S with O_Space := { S.O_Space with f_runs := va_up S.O_Space.f_runs a v } }) := by
  rw [va_pl_set hD hL hk]
  exact congrArg (fun l => X ++ l) (va_pl_congr (wSt_O_Space_f_runs cyI cyOe8b87 S h v))
theorem wSt_O_Space_f_mapped (cyI : ClassId) (cyOe8b87 : ClassId) (S : wPS) {a : Nat} (h : S.K a = 0) (v : Int64) (b : Nat) : va_up (wPF cyI cyOe8b87 S) a (.inr (0, [.int (S.O_Space.f_runs a), .long v, va_rf (S.O_Space.f_frames a), va_rf (S.O_Space.f_kinds a)])) b = wPF cyI cyOe8b87 { S with O_Space := { S.O_Space with f_mapped := va_up S.O_Space.f_mapped a v } } b := by by_cases hb : b = a <;> first | (simp only [wPF, va_up_ne _ _ hb]; done) | (simp only [wPF, va_up, if_neg hb]; done) | simp [wPF, va_re, va_up, va_rf, hb, h]
theorem wPu_O_Space_f_mapped (cyI : ClassId) (cyOe8b87 : ClassId) (X : va_W) (S : wPS) {A : Nat → Prop} {a k : Nat} (hD : va_D A (X ++ va_pl S.L (wPF cyI cyOe8b87 S))) (hL : a ∈ S.L) (h : S.K a = 0) (hk : (X ++ va_pl S.L (wPF cyI cyOe8b87 S))[k]? = some (a, wPF cyI cyOe8b87 S a)) (v : Int64) : (X ++ va_pl S.L (wPF cyI cyOe8b87 S)).set k (a, .inr (0, [.int (S.O_Space.f_runs a), .long v, va_rf (S.O_Space.f_frames a), va_rf (S.O_Space.f_kinds a)])) = X ++ va_pl S.L (wPF cyI cyOe8b87 { S with O_Space := { S.O_Space with f_mapped := va_up S.O_Space.f_mapped a v } }) := by
  rw [va_pl_set hD hL hk]
  exact congrArg (fun l => X ++ l) (va_pl_congr (wSt_O_Space_f_mapped cyI cyOe8b87 S h v))
theorem wSt_O_Space_f_frames (cyI : ClassId) (cyOe8b87 : ClassId) (S : wPS) {a : Nat} (h : S.K a = 0) (v : Option Nat) (b : Nat) : va_up (wPF cyI cyOe8b87 S) a (.inr (0, [.int (S.O_Space.f_runs a), .long (S.O_Space.f_mapped a), va_rf v, va_rf (S.O_Space.f_kinds a)])) b = wPF cyI cyOe8b87 { S with O_Space := { S.O_Space with f_frames := va_up S.O_Space.f_frames a v } } b := by by_cases hb : b = a <;> first | (simp only [wPF, va_up_ne _ _ hb]; done) | (simp only [wPF, va_up, if_neg hb]; done) | simp [wPF, va_re, va_up, va_rf, hb, h]
theorem wPu_O_Space_f_frames (cyI : ClassId) (cyOe8b87 : ClassId) (X : va_W) (S : wPS) {A : Nat → Prop} {a k : Nat} (hD : va_D A (X ++ va_pl S.L (wPF cyI cyOe8b87 S))) (hL : a ∈ S.L) (h : S.K a = 0) (hk : (X ++ va_pl S.L (wPF cyI cyOe8b87 S))[k]? = some (a, wPF cyI cyOe8b87 S a)) (v : Option Nat) : (X ++ va_pl S.L (wPF cyI cyOe8b87 S)).set k (a, .inr (0, [.int (S.O_Space.f_runs a), .long (S.O_Space.f_mapped a), va_rf v, va_rf (S.O_Space.f_kinds a)])) = X ++ va_pl S.L (wPF cyI cyOe8b87 { S with O_Space := { S.O_Space with f_frames := va_up S.O_Space.f_frames a v } }) := by
  rw [va_pl_set hD hL hk]
  exact congrArg (fun l => X ++ l) (va_pl_congr (wSt_O_Space_f_frames cyI cyOe8b87 S h v))
theorem wSt_O_Space_f_kinds (cyI : ClassId) (cyOe8b87 : ClassId) (S : wPS) {a : Nat} (h : S.K a = 0) (v : Option Nat) (b : Nat) : va_up (wPF cyI cyOe8b87 S) a (.inr (0, [.int (S.O_Space.f_runs a), .long (S.O_Space.f_mapped a), va_rf (S.O_Space.f_frames a), va_rf v])) b = wPF cyI cyOe8b87 { S with O_Space := { S.O_Space with f_kinds := va_up S.O_Space.f_kinds a v } } b := by by_cases hb : b = a <;> first | (simp only [wPF, va_up_ne _ _ hb]; done) | (simp only [wPF, va_up, if_neg hb]; done) | simp [wPF, va_re, va_up, va_rf, hb, h]
theorem wPu_O_Space_f_kinds (cyI : ClassId) (cyOe8b87 : ClassId) (X : va_W) (S : wPS) {A : Nat → Prop} {a k : Nat} (hD : va_D A (X ++ va_pl S.L (wPF cyI cyOe8b87 S))) (hL : a ∈ S.L) (h : S.K a = 0) (hk : (X ++ va_pl S.L (wPF cyI cyOe8b87 S))[k]? = some (a, wPF cyI cyOe8b87 S a)) (v : Option Nat) : (X ++ va_pl S.L (wPF cyI cyOe8b87 S)).set k (a, .inr (0, [.int (S.O_Space.f_runs a), .long (S.O_Space.f_mapped a), va_rf (S.O_Space.f_frames a), va_rf v])) = X ++ va_pl S.L (wPF cyI cyOe8b87 { S with O_Space := { S.O_Space with f_kinds := va_up S.O_Space.f_kinds a v } }) := by
  rw [va_pl_set hD hL hk]
  exact congrArg (fun l => X ++ l) (va_pl_congr (wSt_O_Space_f_kinds cyI cyOe8b87 S h v))
theorem wNw_O_Space (cyI : ClassId) (cyOe8b87 : ClassId) (S : wPS) (a b : Nat) : va_up (wPF cyI cyOe8b87 S) a (.inr (0, [.int 0, .long 0, .null, .null])) b = wPF cyI cyOe8b87 { S with L := S.L ++ [a], K := va_up S.K a 0, O_Space := { f_runs := va_up S.O_Space.f_runs a 0, f_mapped := va_up S.O_Space.f_mapped a 0, f_frames := va_up S.O_Space.f_frames a none, f_kinds := va_up S.O_Space.f_kinds a none } } b := by by_cases hb : b = a <;> first | (simp only [wPF, va_up_ne _ _ hb]; done) | (simp only [wPF, va_up, if_neg hb]; done) | simp [wPF, va_re, va_up, va_rf, hb]
theorem wPn_O_Space (cyI : ClassId) (cyOe8b87 : ClassId) (X : va_W) (S : wPS) {a : Nat} (ha : a ∉ S.L) : (X ++ va_pl S.L (wPF cyI cyOe8b87 S)) ++ [(a, .inr (0, [.int 0, .long 0, .null, .null]))] = X ++ va_pl (S.L ++ [a]) (wPF cyI cyOe8b87 { S with L := S.L ++ [a], K := va_up S.K a 0, O_Space := { f_runs := va_up S.O_Space.f_runs a 0, f_mapped := va_up S.O_Space.f_mapped a 0, f_frames := va_up S.O_Space.f_frames a none, f_kinds := va_up S.O_Space.f_kinds a none } }) := by
  rw [List.append_assoc, va_pl_push ha]
  exact congrArg (fun l => X ++ l) (va_pl_congr (wNw_O_Space cyI cyOe8b87 S a))
theorem wAt_O_Store (cyI : ClassId) (cyOe8b87 : ClassId) (S : wPS) {a : Nat} (h : S.K a = 1) : wPF cyI cyOe8b87 S a = .inr (1, [va_rf (S.O_Store.f_words a), va_rf (S.O_Store.f_counts a)]) := by simp [wPF, h]
theorem wGt_O_Store (cyI : ClassId) (cyOe8b87 : ClassId) (X : va_W) (S : wPS) {a : Nat} (hL : a ∈ S.L) (h : S.K a = 1) : ∃ k : Nat, (X ++ va_pl S.L (wPF cyI cyOe8b87 S))[k]? = some (a, wPF cyI cyOe8b87 S a) ∧ (X ++ va_pl S.L (wPF cyI cyOe8b87 S))[k]? = some (a, .inr (1, [va_rf (S.O_Store.f_words a), va_rf (S.O_Store.f_counts a)])) := by
  obtain ⟨k, hk⟩ := va_pl_get (X := X) (f := wPF cyI cyOe8b87 S) hL
  exact ⟨k, hk, hk.trans (congrArg (fun e => some (a, e)) (wAt_O_Store cyI cyOe8b87 S h))⟩
theorem wSt_O_Store_f_words (cyI : ClassId) (cyOe8b87 : ClassId) (S : wPS) {a : Nat} (h : S.K a = 1) (v : Option Nat) (b : Nat) : va_up (wPF cyI cyOe8b87 S) a (.inr (1, [va_rf v, va_rf (S.O_Store.f_counts a)])) b = wPF cyI cyOe8b87 { S with O_Store := { S.O_Store with f_words := va_up S.O_Store.f_words a v } } b := by by_cases hb : b = a <;> first | (simp only [wPF, va_up_ne _ _ hb]; done) | (simp only [wPF, va_up, if_neg hb]; done) | simp [wPF, va_re, va_up, va_rf, hb, h]
theorem wPu_O_Store_f_words (cyI : ClassId) (cyOe8b87 : ClassId) (X : va_W) (S : wPS) {A : Nat → Prop} {a k : Nat} (hD : va_D A (X ++ va_pl S.L (wPF cyI cyOe8b87 S))) (hL : a ∈ S.L) (h : S.K a = 1) (hk : (X ++ va_pl S.L (wPF cyI cyOe8b87 S))[k]? = some (a, wPF cyI cyOe8b87 S a)) (v : Option Nat) : (X ++ va_pl S.L (wPF cyI cyOe8b87 S)).set k (a, .inr (1, [va_rf v, va_rf (S.O_Store.f_counts a)])) = X ++ va_pl S.L (wPF cyI cyOe8b87 { S with O_Store := { S.O_Store with f_words := va_up S.O_Store.f_words a v } }) := by
  rw [va_pl_set hD hL hk]
  exact congrArg (fun l => X ++ l) (va_pl_congr (wSt_O_Store_f_words cyI cyOe8b87 S h v))
theorem wSt_O_Store_f_counts (cyI : ClassId) (cyOe8b87 : ClassId) (S : wPS) {a : Nat} (h : S.K a = 1) (v : Option Nat) (b : Nat) : va_up (wPF cyI cyOe8b87 S) a (.inr (1, [va_rf (S.O_Store.f_words a), va_rf v])) b = wPF cyI cyOe8b87 { S with O_Store := { S.O_Store with f_counts := va_up S.O_Store.f_counts a v } } b := by by_cases hb : b = a <;> first | (simp only [wPF, va_up_ne _ _ hb]; done) | (simp only [wPF, va_up, if_neg hb]; done) | simp [wPF, va_re, va_up, va_rf, hb, h]
theorem wPu_O_Store_f_counts (cyI : ClassId) (cyOe8b87 : ClassId) (X : va_W) (S : wPS) {A : Nat → Prop} {a k : Nat} (hD : va_D A (X ++ va_pl S.L (wPF cyI cyOe8b87 S))) (hL : a ∈ S.L) (h : S.K a = 1) (hk : (X ++ va_pl S.L (wPF cyI cyOe8b87 S))[k]? = some (a, wPF cyI cyOe8b87 S a)) (v : Option Nat) : (X ++ va_pl S.L (wPF cyI cyOe8b87 S)).set k (a, .inr (1, [va_rf (S.O_Store.f_words a), va_rf v])) = X ++ va_pl S.L (wPF cyI cyOe8b87 { S with O_Store := { S.O_Store with f_counts := va_up S.O_Store.f_counts a v } }) := by
  rw [va_pl_set hD hL hk]
  exact congrArg (fun l => X ++ l) (va_pl_congr (wSt_O_Store_f_counts cyI cyOe8b87 S h v))
theorem wNw_O_Store (cyI : ClassId) (cyOe8b87 : ClassId) (S : wPS) (a b : Nat) : va_up (wPF cyI cyOe8b87 S) a (.inr (1, [.null, .null])) b = wPF cyI cyOe8b87 { S with L := S.L ++ [a], K := va_up S.K a 1, O_Store := { f_words := va_up S.O_Store.f_words a none, f_counts := va_up S.O_Store.f_counts a none } } b := by by_cases hb : b = a <;> first | (simp only [wPF, va_up_ne _ _ hb]; done) | (simp only [wPF, va_up, if_neg hb]; done) | simp [wPF, va_re, va_up, va_rf, hb]
theorem wPn_O_Store (cyI : ClassId) (cyOe8b87 : ClassId) (X : va_W) (S : wPS) {a : Nat} (ha : a ∉ S.L) : (X ++ va_pl S.L (wPF cyI cyOe8b87 S)) ++ [(a, .inr (1, [.null, .null]))] = X ++ va_pl (S.L ++ [a]) (wPF cyI cyOe8b87 { S with L := S.L ++ [a], K := va_up S.K a 1, O_Store := { f_words := va_up S.O_Store.f_words a none, f_counts := va_up S.O_Store.f_counts a none } }) := by
  rw [List.append_assoc, va_pl_push ha]
  exact congrArg (fun l => X ++ l) (va_pl_congr (wNw_O_Store cyI cyOe8b87 S a))
theorem wAt_O_ForkedPages (cyI : ClassId) (cyOe8b87 : ClassId) (S : wPS) {a : Nat} (h : S.K a = 2) : wPF cyI cyOe8b87 S a = .inr (2, [va_rf (S.O_ForkedPages.f_spaces a), va_rf (S.O_ForkedPages.f_store a), .int (S.O_ForkedPages.f_allFaults a), .int (S.O_ForkedPages.f_copyFaults a)]) := by simp [wPF, h]
theorem wGt_O_ForkedPages (cyI : ClassId) (cyOe8b87 : ClassId) (X : va_W) (S : wPS) {a : Nat} (hL : a ∈ S.L) (h : S.K a = 2) : ∃ k : Nat, (X ++ va_pl S.L (wPF cyI cyOe8b87 S))[k]? = some (a, wPF cyI cyOe8b87 S a) ∧ (X ++ va_pl S.L (wPF cyI cyOe8b87 S))[k]? = some (a, .inr (2, [va_rf (S.O_ForkedPages.f_spaces a), va_rf (S.O_ForkedPages.f_store a), .int (S.O_ForkedPages.f_allFaults a), .int (S.O_ForkedPages.f_copyFaults a)])) := by
  obtain ⟨k, hk⟩ := va_pl_get (X := X) (f := wPF cyI cyOe8b87 S) hL
  exact ⟨k, hk, hk.trans (congrArg (fun e => some (a, e)) (wAt_O_ForkedPages cyI cyOe8b87 S h))⟩
theorem wSt_O_ForkedPages_f_spaces (cyI : ClassId) (cyOe8b87 : ClassId) (S : wPS) {a : Nat} (h : S.K a = 2) (v : Option Nat) (b : Nat) : va_up (wPF cyI cyOe8b87 S) a (.inr (2, [va_rf v, va_rf (S.O_ForkedPages.f_store a), .int (S.O_ForkedPages.f_allFaults a), .int (S.O_ForkedPages.f_copyFaults a)])) b = wPF cyI cyOe8b87 { S with O_ForkedPages := { S.O_ForkedPages with f_spaces := va_up S.O_ForkedPages.f_spaces a v } } b := by by_cases hb : b = a <;> first | (simp only [wPF, va_up_ne _ _ hb]; done) | (simp only [wPF, va_up, if_neg hb]; done) | simp [wPF, va_re, va_up, va_rf, hb, h]
theorem wPu_O_ForkedPages_f_spaces (cyI : ClassId) (cyOe8b87 : ClassId) (X : va_W) (S : wPS) {A : Nat → Prop} {a k : Nat} (hD : va_D A (X ++ va_pl S.L (wPF cyI cyOe8b87 S))) (hL : a ∈ S.L) (h : S.K a = 2) (hk : (X ++ va_pl S.L (wPF cyI cyOe8b87 S))[k]? = some (a, wPF cyI cyOe8b87 S a)) (v : Option Nat) : (X ++ va_pl S.L (wPF cyI cyOe8b87 S)).set k (a, .inr (2, [va_rf v, va_rf (S.O_ForkedPages.f_store a), .int (S.O_ForkedPages.f_allFaults a), .int (S.O_ForkedPages.f_copyFaults a)])) = X ++ va_pl S.L (wPF cyI cyOe8b87 { S with O_ForkedPages := { S.O_ForkedPages with f_spaces := va_up S.O_ForkedPages.f_spaces a v } }) := by
  rw [va_pl_set hD hL hk]
  exact congrArg (fun l => X ++ l) (va_pl_congr (wSt_O_ForkedPages_f_spaces cyI cyOe8b87 S h v))
theorem wSt_O_ForkedPages_f_store (cyI : ClassId) (cyOe8b87 : ClassId) (S : wPS) {a : Nat} (h : S.K a = 2) (v : Option Nat) (b : Nat) : va_up (wPF cyI cyOe8b87 S) a (.inr (2, [va_rf (S.O_ForkedPages.f_spaces a), va_rf v, .int (S.O_ForkedPages.f_allFaults a), .int (S.O_ForkedPages.f_copyFaults a)])) b = wPF cyI cyOe8b87 { S with O_ForkedPages := { S.O_ForkedPages with f_store := va_up S.O_ForkedPages.f_store a v } } b := by by_cases hb : b = a <;> first | (simp only [wPF, va_up_ne _ _ hb]; done) | (simp only [wPF, va_up, if_neg hb]; done) | simp [wPF, va_re, va_up, va_rf, hb, h]
theorem wPu_O_ForkedPages_f_store (cyI : ClassId) (cyOe8b87 : ClassId) (X : va_W) (S : wPS) {A : Nat → Prop} {a k : Nat} (hD : va_D A (X ++ va_pl S.L (wPF cyI cyOe8b87 S))) (hL : a ∈ S.L) (h : S.K a = 2) (hk : (X ++ va_pl S.L (wPF cyI cyOe8b87 S))[k]? = some (a, wPF cyI cyOe8b87 S a)) (v : Option Nat) : (X ++ va_pl S.L (wPF cyI cyOe8b87 S)).set k (a, .inr (2, [va_rf (S.O_ForkedPages.f_spaces a), va_rf v, .int (S.O_ForkedPages.f_allFaults a), .int (S.O_ForkedPages.f_copyFaults a)])) = X ++ va_pl S.L (wPF cyI cyOe8b87 { S with O_ForkedPages := { S.O_ForkedPages with f_store := va_up S.O_ForkedPages.f_store a v } }) := by
  rw [va_pl_set hD hL hk]
  exact congrArg (fun l => X ++ l) (va_pl_congr (wSt_O_ForkedPages_f_store cyI cyOe8b87 S h v))
theorem wSt_O_ForkedPages_f_allFaults (cyI : ClassId) (cyOe8b87 : ClassId) (S : wPS) {a : Nat} (h : S.K a = 2) (v : Int32) (b : Nat) : va_up (wPF cyI cyOe8b87 S) a (.inr (2, [va_rf (S.O_ForkedPages.f_spaces a), va_rf (S.O_ForkedPages.f_store a), .int v, .int (S.O_ForkedPages.f_copyFaults a)])) b = wPF cyI cyOe8b87 { S with O_ForkedPages := { S.O_ForkedPages with f_allFaults := va_up S.O_ForkedPages.f_allFaults a v } } b := by by_cases hb : b = a <;> first | (simp only [wPF, va_up_ne _ _ hb]; done) | (simp only [wPF, va_up, if_neg hb]; done) | simp [wPF, va_re, va_up, va_rf, hb, h]
theorem wPu_O_ForkedPages_f_allFaults (cyI : ClassId) (cyOe8b87 : ClassId) (X : va_W) (S : wPS) {A : Nat → Prop} {a k : Nat} (hD : va_D A (X ++ va_pl S.L (wPF cyI cyOe8b87 S))) (hL : a ∈ S.L) (h : S.K a = 2) (hk : (X ++ va_pl S.L (wPF cyI cyOe8b87 S))[k]? = some (a, wPF cyI cyOe8b87 S a)) (v : Int32) : (X ++ va_pl S.L (wPF cyI cyOe8b87 S)).set k (a, .inr (2, [va_rf (S.O_ForkedPages.f_spaces a), va_rf (S.O_ForkedPages.f_store a), .int v, .int (S.O_ForkedPages.f_copyFaults a)])) = X ++ va_pl S.L (wPF cyI cyOe8b87 { S with O_ForkedPages := { S.O_ForkedPages with f_allFaults := va_up S.O_ForkedPages.f_allFaults a v } }) := by
  rw [va_pl_set hD hL hk]
  exact congrArg (fun l => X ++ l) (va_pl_congr (wSt_O_ForkedPages_f_allFaults cyI cyOe8b87 S h v))
theorem wSt_O_ForkedPages_f_copyFaults (cyI : ClassId) (cyOe8b87 : ClassId) (S : wPS) {a : Nat} (h : S.K a = 2) (v : Int32) (b : Nat) : va_up (wPF cyI cyOe8b87 S) a (.inr (2, [va_rf (S.O_ForkedPages.f_spaces a), va_rf (S.O_ForkedPages.f_store a), .int (S.O_ForkedPages.f_allFaults a), .int v])) b = wPF cyI cyOe8b87 { S with O_ForkedPages := { S.O_ForkedPages with f_copyFaults := va_up S.O_ForkedPages.f_copyFaults a v } } b := by by_cases hb : b = a <;> first | (simp only [wPF, va_up_ne _ _ hb]; done) | (simp only [wPF, va_up, if_neg hb]; done) | simp [wPF, va_re, va_up, va_rf, hb, h]
theorem wPu_O_ForkedPages_f_copyFaults (cyI : ClassId) (cyOe8b87 : ClassId) (X : va_W) (S : wPS) {A : Nat → Prop} {a k : Nat} (hD : va_D A (X ++ va_pl S.L (wPF cyI cyOe8b87 S))) (hL : a ∈ S.L) (h : S.K a = 2) (hk : (X ++ va_pl S.L (wPF cyI cyOe8b87 S))[k]? = some (a, wPF cyI cyOe8b87 S a)) (v : Int32) : (X ++ va_pl S.L (wPF cyI cyOe8b87 S)).set k (a, .inr (2, [va_rf (S.O_ForkedPages.f_spaces a), va_rf (S.O_ForkedPages.f_store a), .int (S.O_ForkedPages.f_allFaults a), .int v])) = X ++ va_pl S.L (wPF cyI cyOe8b87 { S with O_ForkedPages := { S.O_ForkedPages with f_copyFaults := va_up S.O_ForkedPages.f_copyFaults a v } }) := by
  rw [va_pl_set hD hL hk]
  exact congrArg (fun l => X ++ l) (va_pl_congr (wSt_O_ForkedPages_f_copyFaults cyI cyOe8b87 S h v))
theorem wNw_O_ForkedPages (cyI : ClassId) (cyOe8b87 : ClassId) (S : wPS) (a b : Nat) : va_up (wPF cyI cyOe8b87 S) a (.inr (2, [.null, .null, .int 0, .int 0])) b = wPF cyI cyOe8b87 { S with L := S.L ++ [a], K := va_up S.K a 2, O_ForkedPages := { f_spaces := va_up S.O_ForkedPages.f_spaces a none, f_store := va_up S.O_ForkedPages.f_store a none, f_allFaults := va_up S.O_ForkedPages.f_allFaults a 0, f_copyFaults := va_up S.O_ForkedPages.f_copyFaults a 0 } } b := by by_cases hb : b = a <;> first | (simp only [wPF, va_up_ne _ _ hb]; done) | (simp only [wPF, va_up, if_neg hb]; done) | simp [wPF, va_re, va_up, va_rf, hb]
theorem wPn_O_ForkedPages (cyI : ClassId) (cyOe8b87 : ClassId) (X : va_W) (S : wPS) {a : Nat} (ha : a ∉ S.L) : (X ++ va_pl S.L (wPF cyI cyOe8b87 S)) ++ [(a, .inr (2, [.null, .null, .int 0, .int 0]))] = X ++ va_pl (S.L ++ [a]) (wPF cyI cyOe8b87 { S with L := S.L ++ [a], K := va_up S.K a 2, O_ForkedPages := { f_spaces := va_up S.O_ForkedPages.f_spaces a none, f_store := va_up S.O_ForkedPages.f_store a none, f_allFaults := va_up S.O_ForkedPages.f_allFaults a 0, f_copyFaults := va_up S.O_ForkedPages.f_copyFaults a 0 } }) := by
  rw [List.append_assoc, va_pl_push ha]
  exact congrArg (fun l => X ++ l) (va_pl_congr (wNw_O_ForkedPages cyI cyOe8b87 S a))
theorem wAt_O_ForkedPagesModel (cyI : ClassId) (cyOe8b87 : ClassId) (S : wPS) {a : Nat} (h : S.K a = 3) : wPF cyI cyOe8b87 S a = .inr (3, []) := by simp [wPF, h]
theorem wGt_O_ForkedPagesModel (cyI : ClassId) (cyOe8b87 : ClassId) (X : va_W) (S : wPS) {a : Nat} (hL : a ∈ S.L) (h : S.K a = 3) : ∃ k : Nat, (X ++ va_pl S.L (wPF cyI cyOe8b87 S))[k]? = some (a, wPF cyI cyOe8b87 S a) ∧ (X ++ va_pl S.L (wPF cyI cyOe8b87 S))[k]? = some (a, .inr (3, [])) := by
  obtain ⟨k, hk⟩ := va_pl_get (X := X) (f := wPF cyI cyOe8b87 S) hL
  exact ⟨k, hk, hk.trans (congrArg (fun e => some (a, e)) (wAt_O_ForkedPagesModel cyI cyOe8b87 S h))⟩
theorem wNw_O_ForkedPagesModel (cyI : ClassId) (cyOe8b87 : ClassId) (S : wPS) (a b : Nat) : va_up (wPF cyI cyOe8b87 S) a (.inr (3, [])) b = wPF cyI cyOe8b87 { S with L := S.L ++ [a], K := va_up S.K a 3 } b := by by_cases hb : b = a <;> first | (simp only [wPF, va_up_ne _ _ hb]; done) | (simp only [wPF, va_up, if_neg hb]; done) | simp [wPF, va_re, va_up, va_rf, hb]
theorem wPn_O_ForkedPagesModel (cyI : ClassId) (cyOe8b87 : ClassId) (X : va_W) (S : wPS) {a : Nat} (ha : a ∉ S.L) : (X ++ va_pl S.L (wPF cyI cyOe8b87 S)) ++ [(a, .inr (3, []))] = X ++ va_pl (S.L ++ [a]) (wPF cyI cyOe8b87 { S with L := S.L ++ [a], K := va_up S.K a 3 }) := by
  rw [List.append_assoc, va_pl_push ha]
  exact congrArg (fun l => X ++ l) (va_pl_congr (wNw_O_ForkedPagesModel cyI cyOe8b87 S a))
theorem wAt_R_I (cyI : ClassId) (cyOe8b87 : ClassId) (S : wPS) {a : Nat} (h : S.K a = 4) : wPF cyI cyOe8b87 S a = .inl (cyI, S.R_I.len a, .inl (S.R_I.row a)) := by simp [wPF, h]
theorem wGt_R_I (cyI : ClassId) (cyOe8b87 : ClassId) (X : va_W) (S : wPS) {a : Nat} (hL : a ∈ S.L) (h : S.K a = 4) : ∃ k : Nat, (X ++ va_pl S.L (wPF cyI cyOe8b87 S))[k]? = some (a, wPF cyI cyOe8b87 S a) ∧ (X ++ va_pl S.L (wPF cyI cyOe8b87 S))[k]? = some (a, .inl (cyI, S.R_I.len a, .inl (S.R_I.row a))) := by
  obtain ⟨k, hk⟩ := va_pl_get (X := X) (f := wPF cyI cyOe8b87 S) hL
  exact ⟨k, hk, hk.trans (congrArg (fun e => some (a, e)) (wAt_R_I cyI cyOe8b87 S h))⟩
theorem wSt_R_I_row (cyI : ClassId) (cyOe8b87 : ClassId) (S : wPS) {a : Nat} (h : S.K a = 4) (v : Nat → Int32) (b : Nat) : va_up (wPF cyI cyOe8b87 S) a (.inl (cyI, S.R_I.len a, .inl v)) b = wPF cyI cyOe8b87 { S with R_I := { S.R_I with row := va_up S.R_I.row a v } } b := by by_cases hb : b = a <;> first | (simp only [wPF, va_up_ne _ _ hb]; done) | (simp only [wPF, va_up, if_neg hb]; done) | simp [wPF, va_re, va_up, va_rf, hb, h]
theorem wPu_R_I_row (cyI : ClassId) (cyOe8b87 : ClassId) (X : va_W) (S : wPS) {A : Nat → Prop} {a k : Nat} (hD : va_D A (X ++ va_pl S.L (wPF cyI cyOe8b87 S))) (hL : a ∈ S.L) (h : S.K a = 4) (hk : (X ++ va_pl S.L (wPF cyI cyOe8b87 S))[k]? = some (a, wPF cyI cyOe8b87 S a)) (v : Nat → Int32) : (X ++ va_pl S.L (wPF cyI cyOe8b87 S)).set k (a, .inl (cyI, S.R_I.len a, .inl v)) = X ++ va_pl S.L (wPF cyI cyOe8b87 { S with R_I := { S.R_I with row := va_up S.R_I.row a v } }) := by
  rw [va_pl_set hD hL hk]
  exact congrArg (fun l => X ++ l) (va_pl_congr (wSt_R_I_row cyI cyOe8b87 S h v))
theorem wNw_R_I (cyI : ClassId) (cyOe8b87 : ClassId) (S : wPS) (a : Nat) (z : Nat) (f : Nat → Int32) (b : Nat) : va_up (wPF cyI cyOe8b87 S) a (.inl (cyI, z, .inl f)) b = wPF cyI cyOe8b87 { S with L := S.L ++ [a], K := va_up S.K a 4, R_I := { len := va_up S.R_I.len a z, row := va_up S.R_I.row a f } } b := by by_cases hb : b = a <;> first | (simp only [wPF, va_up_ne _ _ hb]; done) | (simp only [wPF, va_up, if_neg hb]; done) | simp [wPF, va_re, va_up, va_rf, hb]
theorem wAt_R_Space (cyI : ClassId) (cyOe8b87 : ClassId) (S : wPS) {a : Nat} (h : S.K a = 5) : wPF cyI cyOe8b87 S a = .inl (cyOe8b87, S.R_Space.len a, .inr (.inr (.inr (.inr (S.R_Space.row a))))) := by simp [wPF, h]
theorem wGt_R_Space (cyI : ClassId) (cyOe8b87 : ClassId) (X : va_W) (S : wPS) {a : Nat} (hL : a ∈ S.L) (h : S.K a = 5) : ∃ k : Nat, (X ++ va_pl S.L (wPF cyI cyOe8b87 S))[k]? = some (a, wPF cyI cyOe8b87 S a) ∧ (X ++ va_pl S.L (wPF cyI cyOe8b87 S))[k]? = some (a, .inl (cyOe8b87, S.R_Space.len a, .inr (.inr (.inr (.inr (S.R_Space.row a)))))) := by
  obtain ⟨k, hk⟩ := va_pl_get (X := X) (f := wPF cyI cyOe8b87 S) hL
  exact ⟨k, hk, hk.trans (congrArg (fun e => some (a, e)) (wAt_R_Space cyI cyOe8b87 S h))⟩
theorem wSt_R_Space_row (cyI : ClassId) (cyOe8b87 : ClassId) (S : wPS) {a : Nat} (h : S.K a = 5) (v : Nat → Option Nat) (b : Nat) : va_up (wPF cyI cyOe8b87 S) a (.inl (cyOe8b87, S.R_Space.len a, .inr (.inr (.inr (.inr v))))) b = wPF cyI cyOe8b87 { S with R_Space := { S.R_Space with row := va_up S.R_Space.row a v } } b := by by_cases hb : b = a <;> first | (simp only [wPF, va_up_ne _ _ hb]; done) | (simp only [wPF, va_up, if_neg hb]; done) | simp [wPF, va_re, va_up, va_rf, hb, h]
theorem wPu_R_Space_row (cyI : ClassId) (cyOe8b87 : ClassId) (X : va_W) (S : wPS) {A : Nat → Prop} {a k : Nat} (hD : va_D A (X ++ va_pl S.L (wPF cyI cyOe8b87 S))) (hL : a ∈ S.L) (h : S.K a = 5) (hk : (X ++ va_pl S.L (wPF cyI cyOe8b87 S))[k]? = some (a, wPF cyI cyOe8b87 S a)) (v : Nat → Option Nat) : (X ++ va_pl S.L (wPF cyI cyOe8b87 S)).set k (a, .inl (cyOe8b87, S.R_Space.len a, .inr (.inr (.inr (.inr v))))) = X ++ va_pl S.L (wPF cyI cyOe8b87 { S with R_Space := { S.R_Space with row := va_up S.R_Space.row a v } }) := by
  rw [va_pl_set hD hL hk]
  exact congrArg (fun l => X ++ l) (va_pl_congr (wSt_R_Space_row cyI cyOe8b87 S h v))
theorem wNw_R_Space (cyI : ClassId) (cyOe8b87 : ClassId) (S : wPS) (a : Nat) (z : Nat) (f : Nat → Option Nat) (b : Nat) : va_up (wPF cyI cyOe8b87 S) a (.inl (cyOe8b87, z, .inr (.inr (.inr (.inr f))))) b = wPF cyI cyOe8b87 { S with L := S.L ++ [a], K := va_up S.K a 5, R_Space := { len := va_up S.R_Space.len a z, row := va_up S.R_Space.row a f } } b := by by_cases hb : b = a <;> first | (simp only [wPF, va_up_ne _ _ hb]; done) | (simp only [wPF, va_up, if_neg hb]; done) | simp [wPF, va_re, va_up, va_rf, hb]
/-! ===== END printed: names ===== -/
