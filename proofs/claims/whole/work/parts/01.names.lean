def RX0 : String := "ForkedPages$Space"
def TX0 : u_T := fun k => match k with
  | 0 => ("ForkedPages$Space", "runs", "Z", false)
  | 1 => ("ForkedPages$Space", "mapped", "J", false)
  | 2 => ("ForkedPages$Space", "frames", "[I", true)
  | _ => ("ForkedPages$Space", "kinds", "[I", true)
def tyX0 : Nat → FieldType := fun k => match k with
  | 0 => .boolean
  | 1 => .long
  | 2 => .array .int
  | _ => .array .int
theorem nmX0 : ∀ a, a < 4 → ∀ b, b < 4 → a ≠ b → (TX0 a).2.1 ≠ (TX0 b).2.1 := by decide +kernel
theorem tyX0_ok : ∀ k, k < 4 → parseFieldDescriptor (TX0 k).2.2.1 = some (tyX0 k) := by decide +kernel
abbrev cX0_init : ByteArray := prog_2_method_1_code
def yX0_init : MethodName := ⟨RX0, "<init>", "()V"⟩
abbrev cX0_has : ByteArray := prog_2_method_2_code
def yX0_has : MethodName := ⟨RX0, "has", "(I)Z"⟩
abbrev cX0_is : ByteArray := prog_2_method_3_code
def yX0_is : MethodName := ⟨RX0, "is", "(II)Z"⟩
abbrev cX0_turn : ByteArray := prog_2_method_4_code
def yX0_turn : MethodName := ⟨RX0, "turn", "(II)V"⟩
abbrev cX0_set : ByteArray := prog_2_method_5_code
def yX0_set : MethodName := ⟨RX0, "set", "(III)V"⟩
abbrev cX0_clear : ByteArray := prog_2_method_6_code
def yX0_clear : MethodName := ⟨RX0, "clear", "(I)V"⟩
abbrev cX0_tableCount : ByteArray := prog_2_method_7_code
def yX0_tableCount : MethodName := ⟨RX0, "tableCount", "()I"⟩
abbrev cX0_tablesToAdd : ByteArray := prog_2_method_8_code
def yX0_tablesToAdd : MethodName := ⟨RX0, "tablesToAdd", "(I)I"⟩
abbrev cX0_tablesFor : ByteArray := prog_2_method_9_code
def yX0_tablesFor : MethodName := ⟨RX0, "tablesFor", "(J)I"⟩
abbrev cX0_spansUsed : ByteArray := prog_2_method_10_code
def yX0_spansUsed : MethodName := ⟨RX0, "spansUsed", "(JII)I"⟩
def RX1 : String := "ForkedPages$Store"
def TX1 : u_T := fun k => match k with
  | 0 => ("ForkedPages$Store", "words", "[I", true)
  | _ => ("ForkedPages$Store", "counts", "[I", true)
def tyX1 : Nat → FieldType := fun k => match k with
  | 0 => .array .int
  | _ => .array .int
theorem nmX1 : ∀ a, a < 2 → ∀ b, b < 2 → a ≠ b → (TX1 a).2.1 ≠ (TX1 b).2.1 := by decide +kernel
theorem tyX1_ok : ∀ k, k < 2 → parseFieldDescriptor (TX1 k).2.2.1 = some (tyX1 k) := by decide +kernel
abbrev cX1_init : ByteArray := prog_3_method_1_code
def yX1_init : MethodName := ⟨RX1, "<init>", "()V"⟩
abbrev cX1_usedFrames : ByteArray := prog_3_method_2_code
def yX1_usedFrames : MethodName := ⟨RX1, "usedFrames", "()I"⟩
abbrev cX1_unusedFrame : ByteArray := prog_3_method_3_code
def yX1_unusedFrame : MethodName := ⟨RX1, "unusedFrame", "()I"⟩
abbrev cX1_blank : ByteArray := prog_3_method_4_code
def yX1_blank : MethodName := ⟨RX1, "blank", "(I)V"⟩
abbrev cX1_copy : ByteArray := prog_3_method_5_code
def yX1_copy : MethodName := ⟨RX1, "copy", "(II)V"⟩
def RX2 : String := "ForkedPages"
def TX2 : u_T := fun k => match k with
  | 0 => ("ForkedPages", "spaces", "[LForkedPages$Space;", true)
  | 1 => ("ForkedPages", "store", "LForkedPages$Store;", true)
  | 2 => ("ForkedPages", "allFaults", "I", false)
  | _ => ("ForkedPages", "copyFaults", "I", false)
def tyX2 : Nat → FieldType := fun k => match k with
  | 0 => .array (.object "ForkedPages$Space")
  | 1 => .object "ForkedPages$Store"
  | 2 => .int
  | _ => .int
theorem nmX2 : ∀ a, a < 4 → ∀ b, b < 4 → a ≠ b → (TX2 a).2.1 ≠ (TX2 b).2.1 := by decide +kernel
theorem tyX2_ok : ∀ k, k < 4 → parseFieldDescriptor (TX2 k).2.2.1 = some (tyX2 k) := by decide +kernel
abbrev cX2_init : ByteArray := prog_1_method_1_code
def yX2_init : MethodName := ⟨RX2, "<init>", "()V"⟩
abbrev cX2_spawn : ByteArray := prog_1_method_2_code
def yX2_spawn : MethodName := ⟨RX2, "spawn", "()I"⟩
abbrev cX2_fork : ByteArray := prog_1_method_3_code
def yX2_fork : MethodName := ⟨RX2, "fork", "(I)I"⟩
abbrev cX2_exit : ByteArray := prog_1_method_4_code
def yX2_exit : MethodName := ⟨RX2, "exit", "(I)I"⟩
abbrev cX2_map : ByteArray := prog_1_method_5_code
def yX2_map : MethodName := ⟨RX2, "map", "(IIZ)I"⟩
abbrev cX2_attach : ByteArray := prog_1_method_6_code
def yX2_attach : MethodName := ⟨RX2, "attach", "(IIII)I"⟩
abbrev cX2_unmap : ByteArray := prog_1_method_7_code
def yX2_unmap : MethodName := ⟨RX2, "unmap", "(II)I"⟩
abbrev cX2_protect : ByteArray := prog_1_method_8_code
def yX2_protect : MethodName := ⟨RX2, "protect", "(IIZ)I"⟩
abbrev cX2_write : ByteArray := prog_1_method_9_code
def yX2_write : MethodName := ⟨RX2, "write", "(III)I"⟩
abbrev cX2_read : ByteArray := prog_1_method_10_code
def yX2_read : MethodName := ⟨RX2, "read", "(II)J"⟩
abbrev cX2_free : ByteArray := prog_1_method_11_code
def yX2_free : MethodName := ⟨RX2, "free", "()I"⟩
abbrev cX2_tables : ByteArray := prog_1_method_12_code
def yX2_tables : MethodName := ⟨RX2, "tables", "(I)I"⟩
abbrev cX2_pages : ByteArray := prog_1_method_13_code
def yX2_pages : MethodName := ⟨RX2, "pages", "(I)I"⟩
abbrev cX2_count : ByteArray := prog_1_method_14_code
def yX2_count : MethodName := ⟨RX2, "count", "(II)I"⟩
abbrev cX2_mapping : ByteArray := prog_1_method_15_code
def yX2_mapping : MethodName := ⟨RX2, "mapping", "(II)I"⟩
abbrev cX2_twin : ByteArray := prog_1_method_16_code
def yX2_twin : MethodName := ⟨RX2, "twin", "(IIII)I"⟩
abbrev cX2_running : ByteArray := prog_1_method_17_code
def yX2_running : MethodName := ⟨RX2, "running", "()I"⟩
abbrev cX2_faults : ByteArray := prog_1_method_18_code
def yX2_faults : MethodName := ⟨RX2, "faults", "(Z)I"⟩
abbrev cX2_isRunning : ByteArray := prog_1_method_19_code
def yX2_isRunning : MethodName := ⟨RX2, "isRunning", "(I)Z"⟩
abbrev cX2_isPage : ByteArray := prog_1_method_20_code
def yX2_isPage : MethodName := ⟨RX2, "isPage", "(I)Z"⟩
abbrev cX2_refusalOfMapped : ByteArray := prog_1_method_21_code
def yX2_refusalOfMapped : MethodName := ⟨RX2, "refusalOfMapped", "(II)I"⟩
abbrev cX2_refusalOfAddress : ByteArray := prog_1_method_22_code
def yX2_refusalOfAddress : MethodName := ⟨RX2, "refusalOfAddress", "(II)I"⟩
abbrev cX2_leastIdle : ByteArray := prog_1_method_23_code
def yX2_leastIdle : MethodName := ⟨RX2, "leastIdle", "()I"⟩
abbrev cX2_freeFrames : ByteArray := prog_1_method_24_code
def yX2_freeFrames : MethodName := ⟨RX2, "freeFrames", "()I"⟩
abbrev cX2_startMapping : ByteArray := prog_1_method_25_code
def yX2_startMapping : MethodName := ⟨RX2, "startMapping", "(LForkedPages$Space;III)V"⟩
abbrev cX2_endMapping : ByteArray := prog_1_method_26_code
def yX2_endMapping : MethodName := ⟨RX2, "endMapping", "(LForkedPages$Space;I)V"⟩
abbrev cX2_sharePage : ByteArray := prog_1_method_27_code
def yX2_sharePage : MethodName := ⟨RX2, "sharePage", "(LForkedPages$Space;LForkedPages$Space;I)V"⟩
abbrev cX2_resolveFault : ByteArray := prog_1_method_28_code
def yX2_resolveFault : MethodName := ⟨RX2, "resolveFault", "(LForkedPages$Space;I)I"⟩
def RJ13 : String := "java/lang/Long"
abbrev cJ13_bitCount_95d88 : ByteArray := prog_6_method_50_code
def yJ13_bitCount_95d88 : MethodName := ⟨RJ13, "bitCount", "(J)I"⟩
def RL : String := "ForkedPagesLaw"
abbrev cL_law : ByteArray := code
def yL_law : MethodName := ⟨RL, "law", "([I)Z"⟩
theorem dX0_init_0 : decode cX0_init 0 = .ok (.aload_n 0, 1) := by decide +kernel
theorem dX0_init_1 : decode cX0_init 1 = .ok (.invokespecial 3, 3) := by decide +kernel
theorem dX0_init_4 : decode cX0_init 4 = .ok (.aload_n 0, 1) := by decide +kernel
theorem dX0_init_5 : decode cX0_init 5 = .ok (.bipush 64, 2) := by decide +kernel
theorem dX0_init_7 : decode cX0_init 7 = .ok (.newarray .int, 2) := by decide +kernel
theorem dX0_init_9 : decode cX0_init 9 = .ok (.putfield 9, 3) := by decide +kernel
theorem dX0_init_12 : decode cX0_init 12 = .ok (.aload_n 0, 1) := by decide +kernel
theorem dX0_init_13 : decode cX0_init 13 = .ok (.bipush 64, 2) := by decide +kernel
theorem dX0_init_15 : decode cX0_init 15 = .ok (.newarray .int, 2) := by decide +kernel
theorem dX0_init_17 : decode cX0_init 17 = .ok (.putfield 15, 3) := by decide +kernel
theorem dX0_init_20 : decode cX0_init 20 = .ok (.return_, 1) := by decide +kernel
theorem dX0_has_0 : decode cX0_has 0 = .ok (.aload_n 0, 1) := by decide +kernel
theorem dX0_has_1 : decode cX0_has 1 = .ok (.getfield 18, 3) := by decide +kernel
theorem dX0_has_4 : decode cX0_has 4 = .ok (.iload_n 1, 1) := by decide +kernel
theorem dX0_has_5 : decode cX0_has 5 = .ok (.lushr, 1) := by decide +kernel
theorem dX0_has_6 : decode cX0_has 6 = .ok (.lconst 1, 1) := by decide +kernel
theorem dX0_has_7 : decode cX0_has 7 = .ok (.land, 1) := by decide +kernel
theorem dX0_has_8 : decode cX0_has 8 = .ok (.lconst 0, 1) := by decide +kernel
theorem dX0_has_9 : decode cX0_has 9 = .ok (.lcmp, 1) := by decide +kernel
theorem dX0_has_10 : decode cX0_has 10 = .ok (.ifCond .eq 7, 3) := by decide +kernel
theorem dX0_has_13 : decode cX0_has 13 = .ok (.iconst 1, 1) := by decide +kernel
theorem dX0_has_14 : decode cX0_has 14 = .ok (.goto 4, 3) := by decide +kernel
theorem dX0_has_17 : decode cX0_has 17 = .ok (.iconst 0, 1) := by decide +kernel
theorem dX0_has_18 : decode cX0_has 18 = .ok (.ireturn, 1) := by decide +kernel
theorem dX0_is_0 : decode cX0_is 0 = .ok (.aload_n 0, 1) := by decide +kernel
theorem dX0_is_1 : decode cX0_is 1 = .ok (.getfield 15, 3) := by decide +kernel
theorem dX0_is_4 : decode cX0_is 4 = .ok (.iload_n 2, 1) := by decide +kernel
theorem dX0_is_5 : decode cX0_is 5 = .ok (.iaload, 1) := by decide +kernel
theorem dX0_is_6 : decode cX0_is 6 = .ok (.iload_n 1, 1) := by decide +kernel
theorem dX0_is_7 : decode cX0_is 7 = .ok (.iand, 1) := by decide +kernel
theorem dX0_is_8 : decode cX0_is 8 = .ok (.ifCond .eq 7, 3) := by decide +kernel
theorem dX0_is_11 : decode cX0_is 11 = .ok (.iconst 1, 1) := by decide +kernel
theorem dX0_is_12 : decode cX0_is 12 = .ok (.goto 4, 3) := by decide +kernel
theorem dX0_is_15 : decode cX0_is 15 = .ok (.iconst 0, 1) := by decide +kernel
theorem dX0_is_16 : decode cX0_is 16 = .ok (.ireturn, 1) := by decide +kernel
theorem dX0_turn_0 : decode cX0_turn 0 = .ok (.aload_n 0, 1) := by decide +kernel
theorem dX0_turn_1 : decode cX0_turn 1 = .ok (.getfield 15, 3) := by decide +kernel
theorem dX0_turn_4 : decode cX0_turn 4 = .ok (.iload_n 2, 1) := by decide +kernel
theorem dX0_turn_5 : decode cX0_turn 5 = .ok (.dup2, 1) := by decide +kernel
theorem dX0_turn_6 : decode cX0_turn 6 = .ok (.iaload, 1) := by decide +kernel
theorem dX0_turn_7 : decode cX0_turn 7 = .ok (.iload_n 1, 1) := by decide +kernel
theorem dX0_turn_8 : decode cX0_turn 8 = .ok (.ixor, 1) := by decide +kernel
theorem dX0_turn_9 : decode cX0_turn 9 = .ok (.iastore, 1) := by decide +kernel
theorem dX0_turn_10 : decode cX0_turn 10 = .ok (.return_, 1) := by decide +kernel
theorem dX0_set_0 : decode cX0_set 0 = .ok (.aload_n 0, 1) := by decide +kernel
theorem dX0_set_1 : decode cX0_set 1 = .ok (.dup, 1) := by decide +kernel
theorem dX0_set_2 : decode cX0_set 2 = .ok (.getfield 18, 3) := by decide +kernel
theorem dX0_set_5 : decode cX0_set 5 = .ok (.lconst 1, 1) := by decide +kernel
theorem dX0_set_6 : decode cX0_set 6 = .ok (.iload_n 1, 1) := by decide +kernel
theorem dX0_set_7 : decode cX0_set 7 = .ok (.lshl, 1) := by decide +kernel
theorem dX0_set_8 : decode cX0_set 8 = .ok (.lor, 1) := by decide +kernel
theorem dX0_set_9 : decode cX0_set 9 = .ok (.putfield 18, 3) := by decide +kernel
theorem dX0_set_12 : decode cX0_set 12 = .ok (.aload_n 0, 1) := by decide +kernel
theorem dX0_set_13 : decode cX0_set 13 = .ok (.getfield 9, 3) := by decide +kernel
theorem dX0_set_16 : decode cX0_set 16 = .ok (.iload_n 1, 1) := by decide +kernel
theorem dX0_set_17 : decode cX0_set 17 = .ok (.iload_n 2, 1) := by decide +kernel
theorem dX0_set_18 : decode cX0_set 18 = .ok (.iastore, 1) := by decide +kernel
theorem dX0_set_19 : decode cX0_set 19 = .ok (.aload_n 0, 1) := by decide +kernel
theorem dX0_set_20 : decode cX0_set 20 = .ok (.getfield 15, 3) := by decide +kernel
theorem dX0_set_23 : decode cX0_set 23 = .ok (.iload_n 1, 1) := by decide +kernel
theorem dX0_set_24 : decode cX0_set 24 = .ok (.iload_n 3, 1) := by decide +kernel
theorem dX0_set_25 : decode cX0_set 25 = .ok (.iastore, 1) := by decide +kernel
theorem dX0_set_26 : decode cX0_set 26 = .ok (.return_, 1) := by decide +kernel
theorem dX0_clear_0 : decode cX0_clear 0 = .ok (.aload_n 0, 1) := by decide +kernel
theorem dX0_clear_1 : decode cX0_clear 1 = .ok (.dup, 1) := by decide +kernel
theorem dX0_clear_2 : decode cX0_clear 2 = .ok (.getfield 18, 3) := by decide +kernel
theorem dX0_clear_5 : decode cX0_clear 5 = .ok (.lconst 1, 1) := by decide +kernel
theorem dX0_clear_6 : decode cX0_clear 6 = .ok (.iload_n 1, 1) := by decide +kernel
theorem dX0_clear_7 : decode cX0_clear 7 = .ok (.lshl, 1) := by decide +kernel
theorem dX0_clear_8 : decode cX0_clear 8 = .ok (.ldc2_w 22, 3) := by decide +kernel
theorem dX0_clear_11 : decode cX0_clear 11 = .ok (.lxor, 1) := by decide +kernel
theorem dX0_clear_12 : decode cX0_clear 12 = .ok (.land, 1) := by decide +kernel
theorem dX0_clear_13 : decode cX0_clear 13 = .ok (.putfield 18, 3) := by decide +kernel
theorem dX0_clear_16 : decode cX0_clear 16 = .ok (.return_, 1) := by decide +kernel
theorem dX0_tableCount_0 : decode cX0_tableCount 0 = .ok (.aload_n 0, 1) := by decide +kernel
theorem dX0_tableCount_1 : decode cX0_tableCount 1 = .ok (.getfield 18, 3) := by decide +kernel
theorem dX0_tableCount_4 : decode cX0_tableCount 4 = .ok (.invokestatic 24, 3) := by decide +kernel
theorem dX0_tableCount_7 : decode cX0_tableCount 7 = .ok (.ireturn, 1) := by decide +kernel
theorem dX0_tablesToAdd_0 : decode cX0_tablesToAdd 0 = .ok (.aload_n 0, 1) := by decide +kernel
theorem dX0_tablesToAdd_1 : decode cX0_tablesToAdd 1 = .ok (.getfield 18, 3) := by decide +kernel
theorem dX0_tablesToAdd_4 : decode cX0_tablesToAdd 4 = .ok (.lconst 1, 1) := by decide +kernel
theorem dX0_tablesToAdd_5 : decode cX0_tablesToAdd 5 = .ok (.iload_n 1, 1) := by decide +kernel
theorem dX0_tablesToAdd_6 : decode cX0_tablesToAdd 6 = .ok (.lshl, 1) := by decide +kernel
theorem dX0_tablesToAdd_7 : decode cX0_tablesToAdd 7 = .ok (.lor, 1) := by decide +kernel
theorem dX0_tablesToAdd_8 : decode cX0_tablesToAdd 8 = .ok (.invokestatic 24, 3) := by decide +kernel
theorem dX0_tablesToAdd_11 : decode cX0_tablesToAdd 11 = .ok (.aload_n 0, 1) := by decide +kernel
theorem dX0_tablesToAdd_12 : decode cX0_tablesToAdd 12 = .ok (.getfield 18, 3) := by decide +kernel
theorem dX0_tablesToAdd_15 : decode cX0_tablesToAdd 15 = .ok (.invokestatic 24, 3) := by decide +kernel
theorem dX0_tablesToAdd_18 : decode cX0_tablesToAdd 18 = .ok (.isub, 1) := by decide +kernel
theorem dX0_tablesToAdd_19 : decode cX0_tablesToAdd 19 = .ok (.ireturn, 1) := by decide +kernel
theorem dX0_tablesFor_0 : decode cX0_tablesFor 0 = .ok (.iconst 1, 1) := by decide +kernel
theorem dX0_tablesFor_1 : decode cX0_tablesFor 1 = .ok (.lload_n 0, 1) := by decide +kernel
theorem dX0_tablesFor_2 : decode cX0_tablesFor 2 = .ok (.iconst 4, 1) := by decide +kernel
theorem dX0_tablesFor_3 : decode cX0_tablesFor 3 = .ok (.bipush 16, 2) := by decide +kernel
theorem dX0_tablesFor_5 : decode cX0_tablesFor 5 = .ok (.invokestatic 28, 3) := by decide +kernel
theorem dX0_tablesFor_8 : decode cX0_tablesFor 8 = .ok (.iadd, 1) := by decide +kernel
theorem dX0_tablesFor_9 : decode cX0_tablesFor 9 = .ok (.lload_n 0, 1) := by decide +kernel
theorem dX0_tablesFor_10 : decode cX0_tablesFor 10 = .ok (.bipush 16, 2) := by decide +kernel
theorem dX0_tablesFor_12 : decode cX0_tablesFor 12 = .ok (.iconst 4, 1) := by decide +kernel
theorem dX0_tablesFor_13 : decode cX0_tablesFor 13 = .ok (.invokestatic 28, 3) := by decide +kernel
theorem dX0_tablesFor_16 : decode cX0_tablesFor 16 = .ok (.iadd, 1) := by decide +kernel
theorem dX0_tablesFor_17 : decode cX0_tablesFor 17 = .ok (.ireturn, 1) := by decide +kernel
theorem dX0_spansUsed_0 : decode cX0_spansUsed 0 = .ok (.lconst 1, 1) := by decide +kernel
theorem dX0_spansUsed_1 : decode cX0_spansUsed 1 = .ok (.iload_n 3, 1) := by decide +kernel
theorem dX0_spansUsed_2 : decode cX0_spansUsed 2 = .ok (.lshl, 1) := by decide +kernel
theorem dX0_spansUsed_3 : decode cX0_spansUsed 3 = .ok (.lconst 1, 1) := by decide +kernel
theorem dX0_spansUsed_4 : decode cX0_spansUsed 4 = .ok (.lsub, 1) := by decide +kernel
theorem dX0_spansUsed_5 : decode cX0_spansUsed 5 = .ok (.lstore 4, 2) := by decide +kernel
theorem dX0_spansUsed_7 : decode cX0_spansUsed 7 = .ok (.iconst 0, 1) := by decide +kernel
theorem dX0_spansUsed_8 : decode cX0_spansUsed 8 = .ok (.istore 6, 2) := by decide +kernel
theorem dX0_spansUsed_10 : decode cX0_spansUsed 10 = .ok (.iconst 0, 1) := by decide +kernel
theorem dX0_spansUsed_11 : decode cX0_spansUsed 11 = .ok (.istore 7, 2) := by decide +kernel
theorem dX0_spansUsed_13 : decode cX0_spansUsed 13 = .ok (.iload 7, 2) := by decide +kernel
theorem dX0_spansUsed_15 : decode cX0_spansUsed 15 = .ok (.iload_n 2, 1) := by decide +kernel
theorem dX0_spansUsed_16 : decode cX0_spansUsed 16 = .ok (.if_icmp .ge 26, 3) := by decide +kernel
theorem dX0_spansUsed_19 : decode cX0_spansUsed 19 = .ok (.lload_n 0, 1) := by decide +kernel
theorem dX0_spansUsed_20 : decode cX0_spansUsed 20 = .ok (.iload 7, 2) := by decide +kernel
theorem dX0_spansUsed_22 : decode cX0_spansUsed 22 = .ok (.iload_n 3, 1) := by decide +kernel
theorem dX0_spansUsed_23 : decode cX0_spansUsed 23 = .ok (.imul, 1) := by decide +kernel
theorem dX0_spansUsed_24 : decode cX0_spansUsed 24 = .ok (.lushr, 1) := by decide +kernel
theorem dX0_spansUsed_25 : decode cX0_spansUsed 25 = .ok (.lload 4, 2) := by decide +kernel
theorem dX0_spansUsed_27 : decode cX0_spansUsed 27 = .ok (.land, 1) := by decide +kernel
theorem dX0_spansUsed_28 : decode cX0_spansUsed 28 = .ok (.lconst 0, 1) := by decide +kernel
theorem dX0_spansUsed_29 : decode cX0_spansUsed 29 = .ok (.lcmp, 1) := by decide +kernel
theorem dX0_spansUsed_30 : decode cX0_spansUsed 30 = .ok (.ifCond .eq 6, 3) := by decide +kernel
theorem dX0_spansUsed_33 : decode cX0_spansUsed 33 = .ok (.iinc 6 1, 3) := by decide +kernel
theorem dX0_spansUsed_36 : decode cX0_spansUsed 36 = .ok (.iinc 7 1, 3) := by decide +kernel
theorem dX0_spansUsed_39 : decode cX0_spansUsed 39 = .ok (.goto (-26), 3) := by decide +kernel
theorem dX0_spansUsed_42 : decode cX0_spansUsed 42 = .ok (.iload 6, 2) := by decide +kernel
theorem dX0_spansUsed_44 : decode cX0_spansUsed 44 = .ok (.ireturn, 1) := by decide +kernel
theorem dX1_init_0 : decode cX1_init 0 = .ok (.aload_n 0, 1) := by decide +kernel
theorem dX1_init_1 : decode cX1_init 1 = .ok (.invokespecial 3, 3) := by decide +kernel
theorem dX1_init_4 : decode cX1_init 4 = .ok (.aload_n 0, 1) := by decide +kernel
theorem dX1_init_5 : decode cX1_init 5 = .ok (.bipush 96, 2) := by decide +kernel
theorem dX1_init_7 : decode cX1_init 7 = .ok (.newarray .int, 2) := by decide +kernel
theorem dX1_init_9 : decode cX1_init 9 = .ok (.putfield 9, 3) := by decide +kernel
theorem dX1_init_12 : decode cX1_init 12 = .ok (.aload_n 0, 1) := by decide +kernel
theorem dX1_init_13 : decode cX1_init 13 = .ok (.bipush 24, 2) := by decide +kernel
theorem dX1_init_15 : decode cX1_init 15 = .ok (.newarray .int, 2) := by decide +kernel
theorem dX1_init_17 : decode cX1_init 17 = .ok (.putfield 15, 3) := by decide +kernel
theorem dX1_init_20 : decode cX1_init 20 = .ok (.return_, 1) := by decide +kernel
theorem dX1_usedFrames_0 : decode cX1_usedFrames 0 = .ok (.iconst 0, 1) := by decide +kernel
theorem dX1_usedFrames_1 : decode cX1_usedFrames 1 = .ok (.istore_n 1, 1) := by decide +kernel
theorem dX1_usedFrames_2 : decode cX1_usedFrames 2 = .ok (.iconst 0, 1) := by decide +kernel
theorem dX1_usedFrames_3 : decode cX1_usedFrames 3 = .ok (.istore_n 2, 1) := by decide +kernel
theorem dX1_usedFrames_4 : decode cX1_usedFrames 4 = .ok (.iload_n 2, 1) := by decide +kernel
theorem dX1_usedFrames_5 : decode cX1_usedFrames 5 = .ok (.bipush 24, 2) := by decide +kernel
theorem dX1_usedFrames_7 : decode cX1_usedFrames 7 = .ok (.if_icmp .ge 21, 3) := by decide +kernel
theorem dX1_usedFrames_10 : decode cX1_usedFrames 10 = .ok (.aload_n 0, 1) := by decide +kernel
theorem dX1_usedFrames_11 : decode cX1_usedFrames 11 = .ok (.getfield 15, 3) := by decide +kernel
theorem dX1_usedFrames_14 : decode cX1_usedFrames 14 = .ok (.iload_n 2, 1) := by decide +kernel
theorem dX1_usedFrames_15 : decode cX1_usedFrames 15 = .ok (.iaload, 1) := by decide +kernel
theorem dX1_usedFrames_16 : decode cX1_usedFrames 16 = .ok (.ifCond .le 6, 3) := by decide +kernel
theorem dX1_usedFrames_19 : decode cX1_usedFrames 19 = .ok (.iinc 1 1, 3) := by decide +kernel
theorem dX1_usedFrames_22 : decode cX1_usedFrames 22 = .ok (.iinc 2 1, 3) := by decide +kernel
theorem dX1_usedFrames_25 : decode cX1_usedFrames 25 = .ok (.goto (-21), 3) := by decide +kernel
theorem dX1_usedFrames_28 : decode cX1_usedFrames 28 = .ok (.iload_n 1, 1) := by decide +kernel
theorem dX1_usedFrames_29 : decode cX1_usedFrames 29 = .ok (.ireturn, 1) := by decide +kernel
theorem dX1_unusedFrame_0 : decode cX1_unusedFrame 0 = .ok (.iconst 0, 1) := by decide +kernel
theorem dX1_unusedFrame_1 : decode cX1_unusedFrame 1 = .ok (.istore_n 1, 1) := by decide +kernel
theorem dX1_unusedFrame_2 : decode cX1_unusedFrame 2 = .ok (.iconst 0, 1) := by decide +kernel
theorem dX1_unusedFrame_3 : decode cX1_unusedFrame 3 = .ok (.istore_n 2, 1) := by decide +kernel
theorem dX1_unusedFrame_4 : decode cX1_unusedFrame 4 = .ok (.iload_n 2, 1) := by decide +kernel
theorem dX1_unusedFrame_5 : decode cX1_unusedFrame 5 = .ok (.bipush 24, 2) := by decide +kernel
theorem dX1_unusedFrame_7 : decode cX1_unusedFrame 7 = .ok (.if_icmp .ge 20, 3) := by decide +kernel
theorem dX1_unusedFrame_10 : decode cX1_unusedFrame 10 = .ok (.aload_n 0, 1) := by decide +kernel
theorem dX1_unusedFrame_11 : decode cX1_unusedFrame 11 = .ok (.getfield 15, 3) := by decide +kernel
theorem dX1_unusedFrame_14 : decode cX1_unusedFrame 14 = .ok (.iload_n 2, 1) := by decide +kernel
theorem dX1_unusedFrame_15 : decode cX1_unusedFrame 15 = .ok (.iaload, 1) := by decide +kernel
theorem dX1_unusedFrame_16 : decode cX1_unusedFrame 16 = .ok (.ifCond .ne 5, 3) := by decide +kernel
theorem dX1_unusedFrame_19 : decode cX1_unusedFrame 19 = .ok (.iload_n 2, 1) := by decide +kernel
theorem dX1_unusedFrame_20 : decode cX1_unusedFrame 20 = .ok (.istore_n 1, 1) := by decide +kernel
theorem dX1_unusedFrame_21 : decode cX1_unusedFrame 21 = .ok (.iinc 2 1, 3) := by decide +kernel
theorem dX1_unusedFrame_24 : decode cX1_unusedFrame 24 = .ok (.goto (-20), 3) := by decide +kernel
theorem dX1_unusedFrame_27 : decode cX1_unusedFrame 27 = .ok (.iload_n 1, 1) := by decide +kernel
theorem dX1_unusedFrame_28 : decode cX1_unusedFrame 28 = .ok (.ireturn, 1) := by decide +kernel
theorem dX1_blank_0 : decode cX1_blank 0 = .ok (.iconst 0, 1) := by decide +kernel
theorem dX1_blank_1 : decode cX1_blank 1 = .ok (.istore_n 2, 1) := by decide +kernel
theorem dX1_blank_2 : decode cX1_blank 2 = .ok (.iload_n 2, 1) := by decide +kernel
theorem dX1_blank_3 : decode cX1_blank 3 = .ok (.iconst 4, 1) := by decide +kernel
theorem dX1_blank_4 : decode cX1_blank 4 = .ok (.if_icmp .ge 20, 3) := by decide +kernel
theorem dX1_blank_7 : decode cX1_blank 7 = .ok (.aload_n 0, 1) := by decide +kernel
theorem dX1_blank_8 : decode cX1_blank 8 = .ok (.getfield 9, 3) := by decide +kernel
theorem dX1_blank_11 : decode cX1_blank 11 = .ok (.iload_n 1, 1) := by decide +kernel
theorem dX1_blank_12 : decode cX1_blank 12 = .ok (.iconst 4, 1) := by decide +kernel
theorem dX1_blank_13 : decode cX1_blank 13 = .ok (.imul, 1) := by decide +kernel
theorem dX1_blank_14 : decode cX1_blank 14 = .ok (.iload_n 2, 1) := by decide +kernel
theorem dX1_blank_15 : decode cX1_blank 15 = .ok (.iadd, 1) := by decide +kernel
theorem dX1_blank_16 : decode cX1_blank 16 = .ok (.iconst 0, 1) := by decide +kernel
theorem dX1_blank_17 : decode cX1_blank 17 = .ok (.iastore, 1) := by decide +kernel
theorem dX1_blank_18 : decode cX1_blank 18 = .ok (.iinc 2 1, 3) := by decide +kernel
theorem dX1_blank_21 : decode cX1_blank 21 = .ok (.goto (-19), 3) := by decide +kernel
theorem dX1_blank_24 : decode cX1_blank 24 = .ok (.return_, 1) := by decide +kernel
theorem dX1_copy_0 : decode cX1_copy 0 = .ok (.iconst 0, 1) := by decide +kernel
theorem dX1_copy_1 : decode cX1_copy 1 = .ok (.istore_n 3, 1) := by decide +kernel
theorem dX1_copy_2 : decode cX1_copy 2 = .ok (.iload_n 3, 1) := by decide +kernel
theorem dX1_copy_3 : decode cX1_copy 3 = .ok (.iconst 4, 1) := by decide +kernel
theorem dX1_copy_4 : decode cX1_copy 4 = .ok (.if_icmp .ge 29, 3) := by decide +kernel
theorem dX1_copy_7 : decode cX1_copy 7 = .ok (.aload_n 0, 1) := by decide +kernel
theorem dX1_copy_8 : decode cX1_copy 8 = .ok (.getfield 9, 3) := by decide +kernel
theorem dX1_copy_11 : decode cX1_copy 11 = .ok (.iload_n 2, 1) := by decide +kernel
theorem dX1_copy_12 : decode cX1_copy 12 = .ok (.iconst 4, 1) := by decide +kernel
theorem dX1_copy_13 : decode cX1_copy 13 = .ok (.imul, 1) := by decide +kernel
theorem dX1_copy_14 : decode cX1_copy 14 = .ok (.iload_n 3, 1) := by decide +kernel
theorem dX1_copy_15 : decode cX1_copy 15 = .ok (.iadd, 1) := by decide +kernel
theorem dX1_copy_16 : decode cX1_copy 16 = .ok (.aload_n 0, 1) := by decide +kernel
theorem dX1_copy_17 : decode cX1_copy 17 = .ok (.getfield 9, 3) := by decide +kernel
theorem dX1_copy_20 : decode cX1_copy 20 = .ok (.iload_n 1, 1) := by decide +kernel
theorem dX1_copy_21 : decode cX1_copy 21 = .ok (.iconst 4, 1) := by decide +kernel
theorem dX1_copy_22 : decode cX1_copy 22 = .ok (.imul, 1) := by decide +kernel
theorem dX1_copy_23 : decode cX1_copy 23 = .ok (.iload_n 3, 1) := by decide +kernel
theorem dX1_copy_24 : decode cX1_copy 24 = .ok (.iadd, 1) := by decide +kernel
theorem dX1_copy_25 : decode cX1_copy 25 = .ok (.iaload, 1) := by decide +kernel
theorem dX1_copy_26 : decode cX1_copy 26 = .ok (.iastore, 1) := by decide +kernel
theorem dX1_copy_27 : decode cX1_copy 27 = .ok (.iinc 3 1, 3) := by decide +kernel
theorem dX1_copy_30 : decode cX1_copy 30 = .ok (.goto (-28), 3) := by decide +kernel
theorem dX1_copy_33 : decode cX1_copy 33 = .ok (.return_, 1) := by decide +kernel
theorem dX2_init_0 : decode cX2_init 0 = .ok (.aload_n 0, 1) := by decide +kernel
theorem dX2_init_1 : decode cX2_init 1 = .ok (.invokespecial 1, 3) := by decide +kernel
theorem dX2_init_4 : decode cX2_init 4 = .ok (.aload_n 0, 1) := by decide +kernel
theorem dX2_init_5 : decode cX2_init 5 = .ok (.iconst 5, 1) := by decide +kernel
theorem dX2_init_6 : decode cX2_init 6 = .ok (.anewarray 9, 3) := by decide +kernel
theorem dX2_init_9 : decode cX2_init 9 = .ok (.putfield 11, 3) := by decide +kernel
theorem dX2_init_12 : decode cX2_init 12 = .ok (.iconst 0, 1) := by decide +kernel
theorem dX2_init_13 : decode cX2_init 13 = .ok (.istore_n 1, 1) := by decide +kernel
theorem dX2_init_14 : decode cX2_init 14 = .ok (.iload_n 1, 1) := by decide +kernel
theorem dX2_init_15 : decode cX2_init 15 = .ok (.iconst 5, 1) := by decide +kernel
theorem dX2_init_16 : decode cX2_init 16 = .ok (.if_icmp .ge 22, 3) := by decide +kernel
theorem dX2_init_19 : decode cX2_init 19 = .ok (.aload_n 0, 1) := by decide +kernel
theorem dX2_init_20 : decode cX2_init 20 = .ok (.getfield 11, 3) := by decide +kernel
theorem dX2_init_23 : decode cX2_init 23 = .ok (.iload_n 1, 1) := by decide +kernel
theorem dX2_init_24 : decode cX2_init 24 = .ok (.new 9, 3) := by decide +kernel
theorem dX2_init_27 : decode cX2_init 27 = .ok (.dup, 1) := by decide +kernel
theorem dX2_init_28 : decode cX2_init 28 = .ok (.invokespecial 15, 3) := by decide +kernel
theorem dX2_init_31 : decode cX2_init 31 = .ok (.aastore, 1) := by decide +kernel
theorem dX2_init_32 : decode cX2_init 32 = .ok (.iinc 1 1, 3) := by decide +kernel
theorem dX2_init_35 : decode cX2_init 35 = .ok (.goto (-21), 3) := by decide +kernel
theorem dX2_init_38 : decode cX2_init 38 = .ok (.aload_n 0, 1) := by decide +kernel
theorem dX2_init_39 : decode cX2_init 39 = .ok (.new 16, 3) := by decide +kernel
theorem dX2_init_42 : decode cX2_init 42 = .ok (.dup, 1) := by decide +kernel
theorem dX2_init_43 : decode cX2_init 43 = .ok (.invokespecial 18, 3) := by decide +kernel
theorem dX2_init_46 : decode cX2_init 46 = .ok (.putfield 19, 3) := by decide +kernel
theorem dX2_init_49 : decode cX2_init 49 = .ok (.return_, 1) := by decide +kernel
theorem dX2_spawn_0 : decode cX2_spawn 0 = .ok (.aload_n 0, 1) := by decide +kernel
theorem dX2_spawn_1 : decode cX2_spawn 1 = .ok (.invokevirtual 23, 3) := by decide +kernel
theorem dX2_spawn_4 : decode cX2_spawn 4 = .ok (.istore_n 1, 1) := by decide +kernel
theorem dX2_spawn_5 : decode cX2_spawn 5 = .ok (.iload_n 1, 1) := by decide +kernel
theorem dX2_spawn_6 : decode cX2_spawn 6 = .ok (.ifCond .ge 6, 3) := by decide +kernel
theorem dX2_spawn_9 : decode cX2_spawn 9 = .ok (.bipush (-7), 2) := by decide +kernel
theorem dX2_spawn_11 : decode cX2_spawn 11 = .ok (.ireturn, 1) := by decide +kernel
theorem dX2_spawn_12 : decode cX2_spawn 12 = .ok (.aload_n 0, 1) := by decide +kernel
theorem dX2_spawn_13 : decode cX2_spawn 13 = .ok (.invokevirtual 27, 3) := by decide +kernel
theorem dX2_spawn_16 : decode cX2_spawn 16 = .ok (.lconst 0, 1) := by decide +kernel
theorem dX2_spawn_17 : decode cX2_spawn 17 = .ok (.invokestatic 30, 3) := by decide +kernel
theorem dX2_spawn_20 : decode cX2_spawn 20 = .ok (.if_icmp .ge 6, 3) := by decide +kernel
theorem dX2_spawn_23 : decode cX2_spawn 23 = .ok (.bipush (-8), 2) := by decide +kernel
theorem dX2_spawn_25 : decode cX2_spawn 25 = .ok (.ireturn, 1) := by decide +kernel
theorem dX2_spawn_26 : decode cX2_spawn 26 = .ok (.aload_n 0, 1) := by decide +kernel
theorem dX2_spawn_27 : decode cX2_spawn 27 = .ok (.getfield 11, 3) := by decide +kernel
theorem dX2_spawn_30 : decode cX2_spawn 30 = .ok (.iload_n 1, 1) := by decide +kernel
theorem dX2_spawn_31 : decode cX2_spawn 31 = .ok (.aaload, 1) := by decide +kernel
theorem dX2_spawn_32 : decode cX2_spawn 32 = .ok (.iconst 1, 1) := by decide +kernel
theorem dX2_spawn_33 : decode cX2_spawn 33 = .ok (.putfield 34, 3) := by decide +kernel
theorem dX2_spawn_36 : decode cX2_spawn 36 = .ok (.iload_n 1, 1) := by decide +kernel
theorem dX2_spawn_37 : decode cX2_spawn 37 = .ok (.ireturn, 1) := by decide +kernel
theorem dX2_fork_0 : decode cX2_fork 0 = .ok (.aload_n 0, 1) := by decide +kernel
theorem dX2_fork_1 : decode cX2_fork 1 = .ok (.iload_n 1, 1) := by decide +kernel
theorem dX2_fork_2 : decode cX2_fork 2 = .ok (.invokevirtual 38, 3) := by decide +kernel
theorem dX2_fork_5 : decode cX2_fork 5 = .ok (.ifCond .ne 5, 3) := by decide +kernel
theorem dX2_fork_8 : decode cX2_fork 8 = .ok (.iconst (-1), 1) := by decide +kernel
theorem dX2_fork_9 : decode cX2_fork 9 = .ok (.ireturn, 1) := by decide +kernel
theorem dX2_fork_10 : decode cX2_fork 10 = .ok (.aload_n 0, 1) := by decide +kernel
theorem dX2_fork_11 : decode cX2_fork 11 = .ok (.invokevirtual 23, 3) := by decide +kernel
theorem dX2_fork_14 : decode cX2_fork 14 = .ok (.istore_n 2, 1) := by decide +kernel
theorem dX2_fork_15 : decode cX2_fork 15 = .ok (.iload_n 2, 1) := by decide +kernel
theorem dX2_fork_16 : decode cX2_fork 16 = .ok (.ifCond .ge 6, 3) := by decide +kernel
theorem dX2_fork_19 : decode cX2_fork 19 = .ok (.bipush (-7), 2) := by decide +kernel
theorem dX2_fork_21 : decode cX2_fork 21 = .ok (.ireturn, 1) := by decide +kernel
theorem dX2_fork_22 : decode cX2_fork 22 = .ok (.aload_n 0, 1) := by decide +kernel
theorem dX2_fork_23 : decode cX2_fork 23 = .ok (.getfield 11, 3) := by decide +kernel
theorem dX2_fork_26 : decode cX2_fork 26 = .ok (.iload_n 1, 1) := by decide +kernel
theorem dX2_fork_27 : decode cX2_fork 27 = .ok (.aaload, 1) := by decide +kernel
theorem dX2_fork_28 : decode cX2_fork 28 = .ok (.astore_n 3, 1) := by decide +kernel
theorem dX2_fork_29 : decode cX2_fork 29 = .ok (.aload_n 0, 1) := by decide +kernel
theorem dX2_fork_30 : decode cX2_fork 30 = .ok (.invokevirtual 27, 3) := by decide +kernel
theorem dX2_fork_33 : decode cX2_fork 33 = .ok (.aload_n 3, 1) := by decide +kernel
theorem dX2_fork_34 : decode cX2_fork 34 = .ok (.invokevirtual 42, 3) := by decide +kernel
theorem dX2_fork_37 : decode cX2_fork 37 = .ok (.if_icmp .ge 6, 3) := by decide +kernel
theorem dX2_fork_40 : decode cX2_fork 40 = .ok (.bipush (-8), 2) := by decide +kernel
theorem dX2_fork_42 : decode cX2_fork 42 = .ok (.ireturn, 1) := by decide +kernel
theorem dX2_fork_43 : decode cX2_fork 43 = .ok (.aload_n 0, 1) := by decide +kernel
theorem dX2_fork_44 : decode cX2_fork 44 = .ok (.getfield 11, 3) := by decide +kernel
theorem dX2_fork_47 : decode cX2_fork 47 = .ok (.iload_n 2, 1) := by decide +kernel
theorem dX2_fork_48 : decode cX2_fork 48 = .ok (.aaload, 1) := by decide +kernel
theorem dX2_fork_49 : decode cX2_fork 49 = .ok (.astore 4, 2) := by decide +kernel
theorem dX2_fork_51 : decode cX2_fork 51 = .ok (.aload 4, 2) := by decide +kernel
theorem dX2_fork_53 : decode cX2_fork 53 = .ok (.iconst 1, 1) := by decide +kernel
theorem dX2_fork_54 : decode cX2_fork 54 = .ok (.putfield 34, 3) := by decide +kernel
theorem dX2_fork_57 : decode cX2_fork 57 = .ok (.iconst 0, 1) := by decide +kernel
theorem dX2_fork_58 : decode cX2_fork 58 = .ok (.istore 5, 2) := by decide +kernel
theorem dX2_fork_60 : decode cX2_fork 60 = .ok (.iload 5, 2) := by decide +kernel
theorem dX2_fork_62 : decode cX2_fork 62 = .ok (.bipush 64, 2) := by decide +kernel
theorem dX2_fork_64 : decode cX2_fork 64 = .ok (.if_icmp .ge 27, 3) := by decide +kernel
theorem dX2_fork_67 : decode cX2_fork 67 = .ok (.aload_n 3, 1) := by decide +kernel
theorem dX2_fork_68 : decode cX2_fork 68 = .ok (.iload 5, 2) := by decide +kernel
theorem dX2_fork_70 : decode cX2_fork 70 = .ok (.invokevirtual 45, 3) := by decide +kernel
theorem dX2_fork_73 : decode cX2_fork 73 = .ok (.ifCond .eq 12, 3) := by decide +kernel
theorem dX2_fork_76 : decode cX2_fork 76 = .ok (.aload_n 0, 1) := by decide +kernel
theorem dX2_fork_77 : decode cX2_fork 77 = .ok (.aload_n 3, 1) := by decide +kernel
theorem dX2_fork_78 : decode cX2_fork 78 = .ok (.aload 4, 2) := by decide +kernel
theorem dX2_fork_80 : decode cX2_fork 80 = .ok (.iload 5, 2) := by decide +kernel
theorem dX2_fork_82 : decode cX2_fork 82 = .ok (.invokevirtual 48, 3) := by decide +kernel
theorem dX2_fork_85 : decode cX2_fork 85 = .ok (.iinc 5 1, 3) := by decide +kernel
theorem dX2_fork_88 : decode cX2_fork 88 = .ok (.goto (-28), 3) := by decide +kernel
theorem dX2_fork_91 : decode cX2_fork 91 = .ok (.iload_n 2, 1) := by decide +kernel
theorem dX2_fork_92 : decode cX2_fork 92 = .ok (.ireturn, 1) := by decide +kernel
theorem dX2_exit_0 : decode cX2_exit 0 = .ok (.aload_n 0, 1) := by decide +kernel
theorem dX2_exit_1 : decode cX2_exit 1 = .ok (.iload_n 1, 1) := by decide +kernel
theorem dX2_exit_2 : decode cX2_exit 2 = .ok (.invokevirtual 38, 3) := by decide +kernel
theorem dX2_exit_5 : decode cX2_exit 5 = .ok (.ifCond .ne 5, 3) := by decide +kernel
theorem dX2_exit_8 : decode cX2_exit 8 = .ok (.iconst (-1), 1) := by decide +kernel
theorem dX2_exit_9 : decode cX2_exit 9 = .ok (.ireturn, 1) := by decide +kernel
theorem dX2_exit_10 : decode cX2_exit 10 = .ok (.aload_n 0, 1) := by decide +kernel
theorem dX2_exit_11 : decode cX2_exit 11 = .ok (.invokevirtual 27, 3) := by decide +kernel
theorem dX2_exit_14 : decode cX2_exit 14 = .ok (.istore_n 2, 1) := by decide +kernel
theorem dX2_exit_15 : decode cX2_exit 15 = .ok (.aload_n 0, 1) := by decide +kernel
theorem dX2_exit_16 : decode cX2_exit 16 = .ok (.getfield 11, 3) := by decide +kernel
theorem dX2_exit_19 : decode cX2_exit 19 = .ok (.iload_n 1, 1) := by decide +kernel
theorem dX2_exit_20 : decode cX2_exit 20 = .ok (.aaload, 1) := by decide +kernel
theorem dX2_exit_21 : decode cX2_exit 21 = .ok (.astore_n 3, 1) := by decide +kernel
theorem dX2_exit_22 : decode cX2_exit 22 = .ok (.iconst 0, 1) := by decide +kernel
theorem dX2_exit_23 : decode cX2_exit 23 = .ok (.istore 4, 2) := by decide +kernel
theorem dX2_exit_25 : decode cX2_exit 25 = .ok (.iload 4, 2) := by decide +kernel
theorem dX2_exit_27 : decode cX2_exit 27 = .ok (.bipush 64, 2) := by decide +kernel
theorem dX2_exit_29 : decode cX2_exit 29 = .ok (.if_icmp .ge 25, 3) := by decide +kernel
theorem dX2_exit_32 : decode cX2_exit 32 = .ok (.aload_n 3, 1) := by decide +kernel
theorem dX2_exit_33 : decode cX2_exit 33 = .ok (.iload 4, 2) := by decide +kernel
theorem dX2_exit_35 : decode cX2_exit 35 = .ok (.invokevirtual 45, 3) := by decide +kernel
theorem dX2_exit_38 : decode cX2_exit 38 = .ok (.ifCond .eq 10, 3) := by decide +kernel
theorem dX2_exit_41 : decode cX2_exit 41 = .ok (.aload_n 0, 1) := by decide +kernel
theorem dX2_exit_42 : decode cX2_exit 42 = .ok (.aload_n 3, 1) := by decide +kernel
theorem dX2_exit_43 : decode cX2_exit 43 = .ok (.iload 4, 2) := by decide +kernel
theorem dX2_exit_45 : decode cX2_exit 45 = .ok (.invokevirtual 52, 3) := by decide +kernel
theorem dX2_exit_48 : decode cX2_exit 48 = .ok (.iinc 4 1, 3) := by decide +kernel
theorem dX2_exit_51 : decode cX2_exit 51 = .ok (.goto (-26), 3) := by decide +kernel
theorem dX2_exit_54 : decode cX2_exit 54 = .ok (.aload_n 3, 1) := by decide +kernel
theorem dX2_exit_55 : decode cX2_exit 55 = .ok (.iconst 0, 1) := by decide +kernel
theorem dX2_exit_56 : decode cX2_exit 56 = .ok (.putfield 34, 3) := by decide +kernel
theorem dX2_exit_59 : decode cX2_exit 59 = .ok (.aload_n 0, 1) := by decide +kernel
theorem dX2_exit_60 : decode cX2_exit 60 = .ok (.invokevirtual 27, 3) := by decide +kernel
theorem dX2_exit_63 : decode cX2_exit 63 = .ok (.iload_n 2, 1) := by decide +kernel
theorem dX2_exit_64 : decode cX2_exit 64 = .ok (.isub, 1) := by decide +kernel
theorem dX2_exit_65 : decode cX2_exit 65 = .ok (.ireturn, 1) := by decide +kernel
theorem dX2_map_0 : decode cX2_map 0 = .ok (.aload_n 0, 1) := by decide +kernel
theorem dX2_map_1 : decode cX2_map 1 = .ok (.iload_n 1, 1) := by decide +kernel
theorem dX2_map_2 : decode cX2_map 2 = .ok (.invokevirtual 38, 3) := by decide +kernel
theorem dX2_map_5 : decode cX2_map 5 = .ok (.ifCond .ne 5, 3) := by decide +kernel
theorem dX2_map_8 : decode cX2_map 8 = .ok (.iconst (-1), 1) := by decide +kernel
theorem dX2_map_9 : decode cX2_map 9 = .ok (.ireturn, 1) := by decide +kernel
theorem dX2_map_10 : decode cX2_map 10 = .ok (.iload_n 2, 1) := by decide +kernel
theorem dX2_map_11 : decode cX2_map 11 = .ok (.invokestatic 56, 3) := by decide +kernel
theorem dX2_map_14 : decode cX2_map 14 = .ok (.ifCond .ne 6, 3) := by decide +kernel
theorem dX2_map_17 : decode cX2_map 17 = .ok (.bipush (-2), 2) := by decide +kernel
theorem dX2_map_19 : decode cX2_map 19 = .ok (.ireturn, 1) := by decide +kernel
theorem dX2_map_20 : decode cX2_map 20 = .ok (.aload_n 0, 1) := by decide +kernel
theorem dX2_map_21 : decode cX2_map 21 = .ok (.getfield 11, 3) := by decide +kernel
theorem dX2_map_24 : decode cX2_map 24 = .ok (.iload_n 1, 1) := by decide +kernel
theorem dX2_map_25 : decode cX2_map 25 = .ok (.aaload, 1) := by decide +kernel
theorem dX2_map_26 : decode cX2_map 26 = .ok (.astore 4, 2) := by decide +kernel
theorem dX2_map_28 : decode cX2_map 28 = .ok (.aload 4, 2) := by decide +kernel
theorem dX2_map_30 : decode cX2_map 30 = .ok (.iload_n 2, 1) := by decide +kernel
theorem dX2_map_31 : decode cX2_map 31 = .ok (.invokevirtual 45, 3) := by decide +kernel
theorem dX2_map_34 : decode cX2_map 34 = .ok (.ifCond .eq 6, 3) := by decide +kernel
theorem dX2_map_37 : decode cX2_map 37 = .ok (.bipush (-4), 2) := by decide +kernel
theorem dX2_map_39 : decode cX2_map 39 = .ok (.ireturn, 1) := by decide +kernel
theorem dX2_map_40 : decode cX2_map 40 = .ok (.iconst 1, 1) := by decide +kernel
theorem dX2_map_41 : decode cX2_map 41 = .ok (.aload 4, 2) := by decide +kernel
theorem dX2_map_43 : decode cX2_map 43 = .ok (.iload_n 2, 1) := by decide +kernel
theorem dX2_map_44 : decode cX2_map 44 = .ok (.invokevirtual 59, 3) := by decide +kernel
theorem dX2_map_47 : decode cX2_map 47 = .ok (.iadd, 1) := by decide +kernel
theorem dX2_map_48 : decode cX2_map 48 = .ok (.istore 5, 2) := by decide +kernel
theorem dX2_map_50 : decode cX2_map 50 = .ok (.aload_n 0, 1) := by decide +kernel
theorem dX2_map_51 : decode cX2_map 51 = .ok (.invokevirtual 27, 3) := by decide +kernel
theorem dX2_map_54 : decode cX2_map 54 = .ok (.iload 5, 2) := by decide +kernel
theorem dX2_map_56 : decode cX2_map 56 = .ok (.if_icmp .ge 6, 3) := by decide +kernel
theorem dX2_map_59 : decode cX2_map 59 = .ok (.bipush (-8), 2) := by decide +kernel
theorem dX2_map_61 : decode cX2_map 61 = .ok (.ireturn, 1) := by decide +kernel
theorem dX2_map_62 : decode cX2_map 62 = .ok (.aload_n 0, 1) := by decide +kernel
theorem dX2_map_63 : decode cX2_map 63 = .ok (.getfield 19, 3) := by decide +kernel
theorem dX2_map_66 : decode cX2_map 66 = .ok (.invokevirtual 63, 3) := by decide +kernel
theorem dX2_map_69 : decode cX2_map 69 = .ok (.istore 6, 2) := by decide +kernel
theorem dX2_map_71 : decode cX2_map 71 = .ok (.aload_n 0, 1) := by decide +kernel
theorem dX2_map_72 : decode cX2_map 72 = .ok (.getfield 19, 3) := by decide +kernel
theorem dX2_map_75 : decode cX2_map 75 = .ok (.iload 6, 2) := by decide +kernel
theorem dX2_map_77 : decode cX2_map 77 = .ok (.invokevirtual 66, 3) := by decide +kernel
theorem dX2_map_80 : decode cX2_map 80 = .ok (.aload_n 0, 1) := by decide +kernel
theorem dX2_map_81 : decode cX2_map 81 = .ok (.aload 4, 2) := by decide +kernel
theorem dX2_map_83 : decode cX2_map 83 = .ok (.iload_n 2, 1) := by decide +kernel
theorem dX2_map_84 : decode cX2_map 84 = .ok (.iload 6, 2) := by decide +kernel
theorem dX2_map_86 : decode cX2_map 86 = .ok (.iload_n 3, 1) := by decide +kernel
theorem dX2_map_87 : decode cX2_map 87 = .ok (.ifCond .eq 7, 3) := by decide +kernel
theorem dX2_map_90 : decode cX2_map 90 = .ok (.iconst 3, 1) := by decide +kernel
theorem dX2_map_91 : decode cX2_map 91 = .ok (.goto 4, 3) := by decide +kernel
theorem dX2_map_94 : decode cX2_map 94 = .ok (.iconst 1, 1) := by decide +kernel
theorem dX2_map_95 : decode cX2_map 95 = .ok (.invokevirtual 70, 3) := by decide +kernel
theorem dX2_map_98 : decode cX2_map 98 = .ok (.iload 5, 2) := by decide +kernel
theorem dX2_map_100 : decode cX2_map 100 = .ok (.ireturn, 1) := by decide +kernel
theorem dX2_attach_0 : decode cX2_attach 0 = .ok (.aload_n 0, 1) := by decide +kernel
theorem dX2_attach_1 : decode cX2_attach 1 = .ok (.iload_n 1, 1) := by decide +kernel
theorem dX2_attach_2 : decode cX2_attach 2 = .ok (.invokevirtual 38, 3) := by decide +kernel
theorem dX2_attach_5 : decode cX2_attach 5 = .ok (.ifCond .eq 11, 3) := by decide +kernel
theorem dX2_attach_8 : decode cX2_attach 8 = .ok (.aload_n 0, 1) := by decide +kernel
theorem dX2_attach_9 : decode cX2_attach 9 = .ok (.iload_n 3, 1) := by decide +kernel
theorem dX2_attach_10 : decode cX2_attach 10 = .ok (.invokevirtual 38, 3) := by decide +kernel
theorem dX2_attach_13 : decode cX2_attach 13 = .ok (.ifCond .ne 5, 3) := by decide +kernel
theorem dX2_attach_16 : decode cX2_attach 16 = .ok (.iconst (-1), 1) := by decide +kernel
theorem dX2_attach_17 : decode cX2_attach 17 = .ok (.ireturn, 1) := by decide +kernel
theorem dX2_attach_18 : decode cX2_attach 18 = .ok (.iload_n 2, 1) := by decide +kernel
theorem dX2_attach_19 : decode cX2_attach 19 = .ok (.invokestatic 56, 3) := by decide +kernel
theorem dX2_attach_22 : decode cX2_attach 22 = .ok (.ifCond .eq 11, 3) := by decide +kernel
theorem dX2_attach_25 : decode cX2_attach 25 = .ok (.iload 4, 2) := by decide +kernel
theorem dX2_attach_27 : decode cX2_attach 27 = .ok (.invokestatic 56, 3) := by decide +kernel
theorem dX2_attach_30 : decode cX2_attach 30 = .ok (.ifCond .ne 6, 3) := by decide +kernel
theorem dX2_attach_33 : decode cX2_attach 33 = .ok (.bipush (-2), 2) := by decide +kernel
theorem dX2_attach_35 : decode cX2_attach 35 = .ok (.ireturn, 1) := by decide +kernel
theorem dX2_attach_36 : decode cX2_attach 36 = .ok (.aload_n 0, 1) := by decide +kernel
theorem dX2_attach_37 : decode cX2_attach 37 = .ok (.getfield 11, 3) := by decide +kernel
theorem dX2_attach_40 : decode cX2_attach 40 = .ok (.iload_n 1, 1) := by decide +kernel
theorem dX2_attach_41 : decode cX2_attach 41 = .ok (.aaload, 1) := by decide +kernel
theorem dX2_attach_42 : decode cX2_attach 42 = .ok (.astore 5, 2) := by decide +kernel
theorem dX2_attach_44 : decode cX2_attach 44 = .ok (.aload_n 0, 1) := by decide +kernel
theorem dX2_attach_45 : decode cX2_attach 45 = .ok (.getfield 11, 3) := by decide +kernel
theorem dX2_attach_48 : decode cX2_attach 48 = .ok (.iload_n 3, 1) := by decide +kernel
theorem dX2_attach_49 : decode cX2_attach 49 = .ok (.aaload, 1) := by decide +kernel
theorem dX2_attach_50 : decode cX2_attach 50 = .ok (.astore 6, 2) := by decide +kernel
theorem dX2_attach_52 : decode cX2_attach 52 = .ok (.aload 6, 2) := by decide +kernel
theorem dX2_attach_54 : decode cX2_attach 54 = .ok (.iload 4, 2) := by decide +kernel
theorem dX2_attach_56 : decode cX2_attach 56 = .ok (.invokevirtual 45, 3) := by decide +kernel
theorem dX2_attach_59 : decode cX2_attach 59 = .ok (.ifCond .ne 6, 3) := by decide +kernel
theorem dX2_attach_62 : decode cX2_attach 62 = .ok (.bipush (-3), 2) := by decide +kernel
theorem dX2_attach_64 : decode cX2_attach 64 = .ok (.ireturn, 1) := by decide +kernel
theorem dX2_attach_65 : decode cX2_attach 65 = .ok (.aload 5, 2) := by decide +kernel
theorem dX2_attach_67 : decode cX2_attach 67 = .ok (.iload_n 2, 1) := by decide +kernel
theorem dX2_attach_68 : decode cX2_attach 68 = .ok (.invokevirtual 45, 3) := by decide +kernel
theorem dX2_attach_71 : decode cX2_attach 71 = .ok (.ifCond .eq 6, 3) := by decide +kernel
theorem dX2_attach_74 : decode cX2_attach 74 = .ok (.bipush (-4), 2) := by decide +kernel
theorem dX2_attach_76 : decode cX2_attach 76 = .ok (.ireturn, 1) := by decide +kernel
theorem dX2_attach_77 : decode cX2_attach 77 = .ok (.aload 6, 2) := by decide +kernel
theorem dX2_attach_79 : decode cX2_attach 79 = .ok (.iconst 2, 1) := by decide +kernel
theorem dX2_attach_80 : decode cX2_attach 80 = .ok (.iload 4, 2) := by decide +kernel
theorem dX2_attach_82 : decode cX2_attach 82 = .ok (.invokevirtual 74, 3) := by decide +kernel
theorem dX2_attach_85 : decode cX2_attach 85 = .ok (.ifCond .ne 6, 3) := by decide +kernel
theorem dX2_attach_88 : decode cX2_attach 88 = .ok (.bipush (-6), 2) := by decide +kernel
theorem dX2_attach_90 : decode cX2_attach 90 = .ok (.ireturn, 1) := by decide +kernel
theorem dX2_attach_91 : decode cX2_attach 91 = .ok (.aload 5, 2) := by decide +kernel
theorem dX2_attach_93 : decode cX2_attach 93 = .ok (.iload_n 2, 1) := by decide +kernel
theorem dX2_attach_94 : decode cX2_attach 94 = .ok (.invokevirtual 59, 3) := by decide +kernel
theorem dX2_attach_97 : decode cX2_attach 97 = .ok (.istore 7, 2) := by decide +kernel
theorem dX2_attach_99 : decode cX2_attach 99 = .ok (.aload_n 0, 1) := by decide +kernel
theorem dX2_attach_100 : decode cX2_attach 100 = .ok (.invokevirtual 27, 3) := by decide +kernel
theorem dX2_attach_103 : decode cX2_attach 103 = .ok (.iload 7, 2) := by decide +kernel
theorem dX2_attach_105 : decode cX2_attach 105 = .ok (.if_icmp .ge 6, 3) := by decide +kernel
theorem dX2_attach_108 : decode cX2_attach 108 = .ok (.bipush (-8), 2) := by decide +kernel
theorem dX2_attach_110 : decode cX2_attach 110 = .ok (.ireturn, 1) := by decide +kernel
theorem dX2_attach_111 : decode cX2_attach 111 = .ok (.aload 6, 2) := by decide +kernel
theorem dX2_attach_113 : decode cX2_attach 113 = .ok (.iconst 1, 1) := by decide +kernel
theorem dX2_attach_114 : decode cX2_attach 114 = .ok (.iload 4, 2) := by decide +kernel
theorem dX2_attach_116 : decode cX2_attach 116 = .ok (.invokevirtual 74, 3) := by decide +kernel
theorem dX2_attach_119 : decode cX2_attach 119 = .ok (.ifCond .eq 7, 3) := by decide +kernel
theorem dX2_attach_122 : decode cX2_attach 122 = .ok (.iconst 3, 1) := by decide +kernel
theorem dX2_attach_123 : decode cX2_attach 123 = .ok (.goto 4, 3) := by decide +kernel
theorem dX2_attach_126 : decode cX2_attach 126 = .ok (.iconst 2, 1) := by decide +kernel
theorem dX2_attach_127 : decode cX2_attach 127 = .ok (.istore 8, 2) := by decide +kernel
theorem dX2_attach_129 : decode cX2_attach 129 = .ok (.aload_n 0, 1) := by decide +kernel
theorem dX2_attach_130 : decode cX2_attach 130 = .ok (.aload 5, 2) := by decide +kernel
theorem dX2_attach_132 : decode cX2_attach 132 = .ok (.iload_n 2, 1) := by decide +kernel
theorem dX2_attach_133 : decode cX2_attach 133 = .ok (.aload 6, 2) := by decide +kernel
theorem dX2_attach_135 : decode cX2_attach 135 = .ok (.getfield 78, 3) := by decide +kernel
theorem dX2_attach_138 : decode cX2_attach 138 = .ok (.iload 4, 2) := by decide +kernel
theorem dX2_attach_140 : decode cX2_attach 140 = .ok (.iaload, 1) := by decide +kernel
theorem dX2_attach_141 : decode cX2_attach 141 = .ok (.iload 8, 2) := by decide +kernel
theorem dX2_attach_143 : decode cX2_attach 143 = .ok (.invokevirtual 70, 3) := by decide +kernel
theorem dX2_attach_146 : decode cX2_attach 146 = .ok (.iload 7, 2) := by decide +kernel
theorem dX2_attach_148 : decode cX2_attach 148 = .ok (.ireturn, 1) := by decide +kernel
theorem dX2_unmap_0 : decode cX2_unmap 0 = .ok (.aload_n 0, 1) := by decide +kernel
theorem dX2_unmap_1 : decode cX2_unmap 1 = .ok (.iload_n 1, 1) := by decide +kernel
theorem dX2_unmap_2 : decode cX2_unmap 2 = .ok (.iload_n 2, 1) := by decide +kernel
theorem dX2_unmap_3 : decode cX2_unmap 3 = .ok (.invokevirtual 82, 3) := by decide +kernel
theorem dX2_unmap_6 : decode cX2_unmap 6 = .ok (.istore_n 3, 1) := by decide +kernel
theorem dX2_unmap_7 : decode cX2_unmap 7 = .ok (.iload_n 3, 1) := by decide +kernel
theorem dX2_unmap_8 : decode cX2_unmap 8 = .ok (.ifCond .eq 5, 3) := by decide +kernel
theorem dX2_unmap_11 : decode cX2_unmap 11 = .ok (.iload_n 3, 1) := by decide +kernel
theorem dX2_unmap_12 : decode cX2_unmap 12 = .ok (.ireturn, 1) := by decide +kernel
theorem dX2_unmap_13 : decode cX2_unmap 13 = .ok (.aload_n 0, 1) := by decide +kernel
theorem dX2_unmap_14 : decode cX2_unmap 14 = .ok (.invokevirtual 27, 3) := by decide +kernel
theorem dX2_unmap_17 : decode cX2_unmap 17 = .ok (.istore 4, 2) := by decide +kernel
theorem dX2_unmap_19 : decode cX2_unmap 19 = .ok (.aload_n 0, 1) := by decide +kernel
theorem dX2_unmap_20 : decode cX2_unmap 20 = .ok (.aload_n 0, 1) := by decide +kernel
theorem dX2_unmap_21 : decode cX2_unmap 21 = .ok (.getfield 11, 3) := by decide +kernel
theorem dX2_unmap_24 : decode cX2_unmap 24 = .ok (.iload_n 1, 1) := by decide +kernel
theorem dX2_unmap_25 : decode cX2_unmap 25 = .ok (.aaload, 1) := by decide +kernel
theorem dX2_unmap_26 : decode cX2_unmap 26 = .ok (.iload_n 2, 1) := by decide +kernel
theorem dX2_unmap_27 : decode cX2_unmap 27 = .ok (.invokevirtual 52, 3) := by decide +kernel
theorem dX2_unmap_30 : decode cX2_unmap 30 = .ok (.aload_n 0, 1) := by decide +kernel
theorem dX2_unmap_31 : decode cX2_unmap 31 = .ok (.invokevirtual 27, 3) := by decide +kernel
theorem dX2_unmap_34 : decode cX2_unmap 34 = .ok (.iload 4, 2) := by decide +kernel
theorem dX2_unmap_36 : decode cX2_unmap 36 = .ok (.isub, 1) := by decide +kernel
theorem dX2_unmap_37 : decode cX2_unmap 37 = .ok (.ireturn, 1) := by decide +kernel
theorem dX2_protect_0 : decode cX2_protect 0 = .ok (.aload_n 0, 1) := by decide +kernel
theorem dX2_protect_1 : decode cX2_protect 1 = .ok (.iload_n 1, 1) := by decide +kernel
theorem dX2_protect_2 : decode cX2_protect 2 = .ok (.iload_n 2, 1) := by decide +kernel
theorem dX2_protect_3 : decode cX2_protect 3 = .ok (.invokevirtual 82, 3) := by decide +kernel
theorem dX2_protect_6 : decode cX2_protect 6 = .ok (.istore 4, 2) := by decide +kernel
theorem dX2_protect_8 : decode cX2_protect 8 = .ok (.iload 4, 2) := by decide +kernel
theorem dX2_protect_10 : decode cX2_protect 10 = .ok (.ifCond .eq 6, 3) := by decide +kernel
theorem dX2_protect_13 : decode cX2_protect 13 = .ok (.iload 4, 2) := by decide +kernel
theorem dX2_protect_15 : decode cX2_protect 15 = .ok (.ireturn, 1) := by decide +kernel
theorem dX2_protect_16 : decode cX2_protect 16 = .ok (.aload_n 0, 1) := by decide +kernel
theorem dX2_protect_17 : decode cX2_protect 17 = .ok (.getfield 11, 3) := by decide +kernel
theorem dX2_protect_20 : decode cX2_protect 20 = .ok (.iload_n 1, 1) := by decide +kernel
theorem dX2_protect_21 : decode cX2_protect 21 = .ok (.aaload, 1) := by decide +kernel
theorem dX2_protect_22 : decode cX2_protect 22 = .ok (.astore 5, 2) := by decide +kernel
theorem dX2_protect_24 : decode cX2_protect 24 = .ok (.aload 5, 2) := by decide +kernel
theorem dX2_protect_26 : decode cX2_protect 26 = .ok (.iconst 1, 1) := by decide +kernel
theorem dX2_protect_27 : decode cX2_protect 27 = .ok (.iload_n 2, 1) := by decide +kernel
theorem dX2_protect_28 : decode cX2_protect 28 = .ok (.invokevirtual 74, 3) := by decide +kernel
theorem dX2_protect_31 : decode cX2_protect 31 = .ok (.iload_n 3, 1) := by decide +kernel
theorem dX2_protect_32 : decode cX2_protect 32 = .ok (.if_icmp .ne 5, 3) := by decide +kernel
theorem dX2_protect_35 : decode cX2_protect 35 = .ok (.iconst 0, 1) := by decide +kernel
theorem dX2_protect_36 : decode cX2_protect 36 = .ok (.ireturn, 1) := by decide +kernel
theorem dX2_protect_37 : decode cX2_protect 37 = .ok (.aload 5, 2) := by decide +kernel
theorem dX2_protect_39 : decode cX2_protect 39 = .ok (.iconst 1, 1) := by decide +kernel
theorem dX2_protect_40 : decode cX2_protect 40 = .ok (.iload_n 2, 1) := by decide +kernel
theorem dX2_protect_41 : decode cX2_protect 41 = .ok (.invokevirtual 86, 3) := by decide +kernel
theorem dX2_protect_44 : decode cX2_protect 44 = .ok (.iconst 1, 1) := by decide +kernel
theorem dX2_protect_45 : decode cX2_protect 45 = .ok (.ireturn, 1) := by decide +kernel
theorem dX2_write_0 : decode cX2_write 0 = .ok (.aload_n 0, 1) := by decide +kernel
theorem dX2_write_1 : decode cX2_write 1 = .ok (.iload_n 1, 1) := by decide +kernel
theorem dX2_write_2 : decode cX2_write 2 = .ok (.iload_n 2, 1) := by decide +kernel
theorem dX2_write_3 : decode cX2_write 3 = .ok (.invokevirtual 90, 3) := by decide +kernel
theorem dX2_write_6 : decode cX2_write 6 = .ok (.istore 4, 2) := by decide +kernel
theorem dX2_write_8 : decode cX2_write 8 = .ok (.iload 4, 2) := by decide +kernel
theorem dX2_write_10 : decode cX2_write 10 = .ok (.ifCond .eq 6, 3) := by decide +kernel
theorem dX2_write_13 : decode cX2_write 13 = .ok (.iload 4, 2) := by decide +kernel
theorem dX2_write_15 : decode cX2_write 15 = .ok (.ireturn, 1) := by decide +kernel
theorem dX2_write_16 : decode cX2_write 16 = .ok (.aload_n 0, 1) := by decide +kernel
theorem dX2_write_17 : decode cX2_write 17 = .ok (.getfield 11, 3) := by decide +kernel
theorem dX2_write_20 : decode cX2_write 20 = .ok (.iload_n 1, 1) := by decide +kernel
theorem dX2_write_21 : decode cX2_write 21 = .ok (.aaload, 1) := by decide +kernel
theorem dX2_write_22 : decode cX2_write 22 = .ok (.astore 5, 2) := by decide +kernel
theorem dX2_write_24 : decode cX2_write 24 = .ok (.iload_n 2, 1) := by decide +kernel
theorem dX2_write_25 : decode cX2_write 25 = .ok (.iconst 4, 1) := by decide +kernel
theorem dX2_write_26 : decode cX2_write 26 = .ok (.idiv, 1) := by decide +kernel
theorem dX2_write_27 : decode cX2_write 27 = .ok (.istore 6, 2) := by decide +kernel
theorem dX2_write_29 : decode cX2_write 29 = .ok (.aload 5, 2) := by decide +kernel
theorem dX2_write_31 : decode cX2_write 31 = .ok (.iconst 1, 1) := by decide +kernel
theorem dX2_write_32 : decode cX2_write 32 = .ok (.iload 6, 2) := by decide +kernel
theorem dX2_write_34 : decode cX2_write 34 = .ok (.invokevirtual 74, 3) := by decide +kernel
theorem dX2_write_37 : decode cX2_write 37 = .ok (.ifCond .ne 6, 3) := by decide +kernel
theorem dX2_write_40 : decode cX2_write 40 = .ok (.bipush (-5), 2) := by decide +kernel
theorem dX2_write_42 : decode cX2_write 42 = .ok (.ireturn, 1) := by decide +kernel
theorem dX2_write_43 : decode cX2_write 43 = .ok (.iconst 0, 1) := by decide +kernel
theorem dX2_write_44 : decode cX2_write 44 = .ok (.istore 7, 2) := by decide +kernel
theorem dX2_write_46 : decode cX2_write 46 = .ok (.aload 5, 2) := by decide +kernel
theorem dX2_write_48 : decode cX2_write 48 = .ok (.iconst 4, 1) := by decide +kernel
theorem dX2_write_49 : decode cX2_write 49 = .ok (.iload 6, 2) := by decide +kernel
theorem dX2_write_51 : decode cX2_write 51 = .ok (.invokevirtual 74, 3) := by decide +kernel
theorem dX2_write_54 : decode cX2_write 54 = .ok (.ifCond .eq 21, 3) := by decide +kernel
theorem dX2_write_57 : decode cX2_write 57 = .ok (.aload_n 0, 1) := by decide +kernel
theorem dX2_write_58 : decode cX2_write 58 = .ok (.aload 5, 2) := by decide +kernel
theorem dX2_write_60 : decode cX2_write 60 = .ok (.iload 6, 2) := by decide +kernel
theorem dX2_write_62 : decode cX2_write 62 = .ok (.invokevirtual 93, 3) := by decide +kernel
theorem dX2_write_65 : decode cX2_write 65 = .ok (.istore 7, 2) := by decide +kernel
theorem dX2_write_67 : decode cX2_write 67 = .ok (.iload 7, 2) := by decide +kernel
theorem dX2_write_69 : decode cX2_write 69 = .ok (.ifCond .ge 6, 3) := by decide +kernel
theorem dX2_write_72 : decode cX2_write 72 = .ok (.iload 7, 2) := by decide +kernel
theorem dX2_write_74 : decode cX2_write 74 = .ok (.ireturn, 1) := by decide +kernel
theorem dX2_write_75 : decode cX2_write 75 = .ok (.aload_n 0, 1) := by decide +kernel
theorem dX2_write_76 : decode cX2_write 76 = .ok (.getfield 19, 3) := by decide +kernel
theorem dX2_write_79 : decode cX2_write 79 = .ok (.getfield 97, 3) := by decide +kernel
theorem dX2_write_82 : decode cX2_write 82 = .ok (.aload 5, 2) := by decide +kernel
theorem dX2_write_84 : decode cX2_write 84 = .ok (.getfield 78, 3) := by decide +kernel
theorem dX2_write_87 : decode cX2_write 87 = .ok (.iload 6, 2) := by decide +kernel
theorem dX2_write_89 : decode cX2_write 89 = .ok (.iaload, 1) := by decide +kernel
theorem dX2_write_90 : decode cX2_write 90 = .ok (.iconst 4, 1) := by decide +kernel
theorem dX2_write_91 : decode cX2_write 91 = .ok (.imul, 1) := by decide +kernel
theorem dX2_write_92 : decode cX2_write 92 = .ok (.iload_n 2, 1) := by decide +kernel
theorem dX2_write_93 : decode cX2_write 93 = .ok (.iconst 4, 1) := by decide +kernel
theorem dX2_write_94 : decode cX2_write 94 = .ok (.irem, 1) := by decide +kernel
theorem dX2_write_95 : decode cX2_write 95 = .ok (.iadd, 1) := by decide +kernel
theorem dX2_write_96 : decode cX2_write 96 = .ok (.iload_n 3, 1) := by decide +kernel
theorem dX2_write_97 : decode cX2_write 97 = .ok (.iastore, 1) := by decide +kernel
theorem dX2_write_98 : decode cX2_write 98 = .ok (.iload 7, 2) := by decide +kernel
theorem dX2_write_100 : decode cX2_write 100 = .ok (.ireturn, 1) := by decide +kernel
theorem dX2_read_0 : decode cX2_read 0 = .ok (.aload_n 0, 1) := by decide +kernel
theorem dX2_read_1 : decode cX2_read 1 = .ok (.iload_n 1, 1) := by decide +kernel
theorem dX2_read_2 : decode cX2_read 2 = .ok (.iload_n 2, 1) := by decide +kernel
theorem dX2_read_3 : decode cX2_read 3 = .ok (.invokevirtual 90, 3) := by decide +kernel
theorem dX2_read_6 : decode cX2_read 6 = .ok (.ifCond .eq 7, 3) := by decide +kernel
theorem dX2_read_9 : decode cX2_read 9 = .ok (.ldc2_w 100, 3) := by decide +kernel
theorem dX2_read_12 : decode cX2_read 12 = .ok (.lreturn, 1) := by decide +kernel
theorem dX2_read_13 : decode cX2_read 13 = .ok (.aload_n 0, 1) := by decide +kernel
theorem dX2_read_14 : decode cX2_read 14 = .ok (.getfield 11, 3) := by decide +kernel
theorem dX2_read_17 : decode cX2_read 17 = .ok (.iload_n 1, 1) := by decide +kernel
theorem dX2_read_18 : decode cX2_read 18 = .ok (.aaload, 1) := by decide +kernel
theorem dX2_read_19 : decode cX2_read 19 = .ok (.getfield 78, 3) := by decide +kernel
theorem dX2_read_22 : decode cX2_read 22 = .ok (.iload_n 2, 1) := by decide +kernel
theorem dX2_read_23 : decode cX2_read 23 = .ok (.iconst 4, 1) := by decide +kernel
theorem dX2_read_24 : decode cX2_read 24 = .ok (.idiv, 1) := by decide +kernel
theorem dX2_read_25 : decode cX2_read 25 = .ok (.iaload, 1) := by decide +kernel
theorem dX2_read_26 : decode cX2_read 26 = .ok (.istore_n 3, 1) := by decide +kernel
theorem dX2_read_27 : decode cX2_read 27 = .ok (.aload_n 0, 1) := by decide +kernel
theorem dX2_read_28 : decode cX2_read 28 = .ok (.getfield 19, 3) := by decide +kernel
theorem dX2_read_31 : decode cX2_read 31 = .ok (.getfield 97, 3) := by decide +kernel
theorem dX2_read_34 : decode cX2_read 34 = .ok (.iload_n 3, 1) := by decide +kernel
theorem dX2_read_35 : decode cX2_read 35 = .ok (.iconst 4, 1) := by decide +kernel
theorem dX2_read_36 : decode cX2_read 36 = .ok (.imul, 1) := by decide +kernel
theorem dX2_read_37 : decode cX2_read 37 = .ok (.iload_n 2, 1) := by decide +kernel
theorem dX2_read_38 : decode cX2_read 38 = .ok (.iconst 4, 1) := by decide +kernel
theorem dX2_read_39 : decode cX2_read 39 = .ok (.irem, 1) := by decide +kernel
theorem dX2_read_40 : decode cX2_read 40 = .ok (.iadd, 1) := by decide +kernel
theorem dX2_read_41 : decode cX2_read 41 = .ok (.iaload, 1) := by decide +kernel
theorem dX2_read_42 : decode cX2_read 42 = .ok (.i2l, 1) := by decide +kernel
theorem dX2_read_43 : decode cX2_read 43 = .ok (.lreturn, 1) := by decide +kernel
theorem dX2_free_0 : decode cX2_free 0 = .ok (.aload_n 0, 1) := by decide +kernel
theorem dX2_free_1 : decode cX2_free 1 = .ok (.invokevirtual 27, 3) := by decide +kernel
theorem dX2_free_4 : decode cX2_free 4 = .ok (.ireturn, 1) := by decide +kernel
theorem dX2_tables_0 : decode cX2_tables 0 = .ok (.aload_n 0, 1) := by decide +kernel
theorem dX2_tables_1 : decode cX2_tables 1 = .ok (.iload_n 1, 1) := by decide +kernel
theorem dX2_tables_2 : decode cX2_tables 2 = .ok (.invokevirtual 38, 3) := by decide +kernel
theorem dX2_tables_5 : decode cX2_tables 5 = .ok (.ifCond .eq 15, 3) := by decide +kernel
theorem dX2_tables_8 : decode cX2_tables 8 = .ok (.aload_n 0, 1) := by decide +kernel
theorem dX2_tables_9 : decode cX2_tables 9 = .ok (.getfield 11, 3) := by decide +kernel
theorem dX2_tables_12 : decode cX2_tables 12 = .ok (.iload_n 1, 1) := by decide +kernel
theorem dX2_tables_13 : decode cX2_tables 13 = .ok (.aaload, 1) := by decide +kernel
theorem dX2_tables_14 : decode cX2_tables 14 = .ok (.invokevirtual 42, 3) := by decide +kernel
theorem dX2_tables_17 : decode cX2_tables 17 = .ok (.goto 4, 3) := by decide +kernel
theorem dX2_tables_20 : decode cX2_tables 20 = .ok (.iconst (-1), 1) := by decide +kernel
theorem dX2_tables_21 : decode cX2_tables 21 = .ok (.ireturn, 1) := by decide +kernel
theorem dX2_pages_0 : decode cX2_pages 0 = .ok (.aload_n 0, 1) := by decide +kernel
theorem dX2_pages_1 : decode cX2_pages 1 = .ok (.iload_n 1, 1) := by decide +kernel
theorem dX2_pages_2 : decode cX2_pages 2 = .ok (.invokevirtual 38, 3) := by decide +kernel
theorem dX2_pages_5 : decode cX2_pages 5 = .ok (.ifCond .eq 18, 3) := by decide +kernel
theorem dX2_pages_8 : decode cX2_pages 8 = .ok (.aload_n 0, 1) := by decide +kernel
theorem dX2_pages_9 : decode cX2_pages 9 = .ok (.getfield 11, 3) := by decide +kernel
theorem dX2_pages_12 : decode cX2_pages 12 = .ok (.iload_n 1, 1) := by decide +kernel
theorem dX2_pages_13 : decode cX2_pages 13 = .ok (.aaload, 1) := by decide +kernel
theorem dX2_pages_14 : decode cX2_pages 14 = .ok (.getfield 102, 3) := by decide +kernel
theorem dX2_pages_17 : decode cX2_pages 17 = .ok (.invokestatic 106, 3) := by decide +kernel
theorem dX2_pages_20 : decode cX2_pages 20 = .ok (.goto 4, 3) := by decide +kernel
theorem dX2_pages_23 : decode cX2_pages 23 = .ok (.iconst (-1), 1) := by decide +kernel
theorem dX2_pages_24 : decode cX2_pages 24 = .ok (.ireturn, 1) := by decide +kernel
theorem dX2_count_0 : decode cX2_count 0 = .ok (.aload_n 0, 1) := by decide +kernel
theorem dX2_count_1 : decode cX2_count 1 = .ok (.iload_n 1, 1) := by decide +kernel
theorem dX2_count_2 : decode cX2_count 2 = .ok (.iload_n 2, 1) := by decide +kernel
theorem dX2_count_3 : decode cX2_count 3 = .ok (.invokevirtual 82, 3) := by decide +kernel
theorem dX2_count_6 : decode cX2_count 6 = .ok (.istore_n 3, 1) := by decide +kernel
theorem dX2_count_7 : decode cX2_count 7 = .ok (.iload_n 3, 1) := by decide +kernel
theorem dX2_count_8 : decode cX2_count 8 = .ok (.ifCond .eq 5, 3) := by decide +kernel
theorem dX2_count_11 : decode cX2_count 11 = .ok (.iload_n 3, 1) := by decide +kernel
theorem dX2_count_12 : decode cX2_count 12 = .ok (.ireturn, 1) := by decide +kernel
theorem dX2_count_13 : decode cX2_count 13 = .ok (.aload_n 0, 1) := by decide +kernel
theorem dX2_count_14 : decode cX2_count 14 = .ok (.getfield 19, 3) := by decide +kernel
theorem dX2_count_17 : decode cX2_count 17 = .ok (.getfield 111, 3) := by decide +kernel
theorem dX2_count_20 : decode cX2_count 20 = .ok (.aload_n 0, 1) := by decide +kernel
theorem dX2_count_21 : decode cX2_count 21 = .ok (.getfield 11, 3) := by decide +kernel
theorem dX2_count_24 : decode cX2_count 24 = .ok (.iload_n 1, 1) := by decide +kernel
theorem dX2_count_25 : decode cX2_count 25 = .ok (.aaload, 1) := by decide +kernel
theorem dX2_count_26 : decode cX2_count 26 = .ok (.getfield 78, 3) := by decide +kernel
theorem dX2_count_29 : decode cX2_count 29 = .ok (.iload_n 2, 1) := by decide +kernel
theorem dX2_count_30 : decode cX2_count 30 = .ok (.iaload, 1) := by decide +kernel
theorem dX2_count_31 : decode cX2_count 31 = .ok (.iaload, 1) := by decide +kernel
theorem dX2_count_32 : decode cX2_count 32 = .ok (.ireturn, 1) := by decide +kernel
theorem dX2_mapping_0 : decode cX2_mapping 0 = .ok (.aload_n 0, 1) := by decide +kernel
theorem dX2_mapping_1 : decode cX2_mapping 1 = .ok (.iload_n 1, 1) := by decide +kernel
theorem dX2_mapping_2 : decode cX2_mapping 2 = .ok (.iload_n 2, 1) := by decide +kernel
theorem dX2_mapping_3 : decode cX2_mapping 3 = .ok (.invokevirtual 82, 3) := by decide +kernel
theorem dX2_mapping_6 : decode cX2_mapping 6 = .ok (.istore_n 3, 1) := by decide +kernel
theorem dX2_mapping_7 : decode cX2_mapping 7 = .ok (.iload_n 3, 1) := by decide +kernel
theorem dX2_mapping_8 : decode cX2_mapping 8 = .ok (.ifCond .eq 5, 3) := by decide +kernel
theorem dX2_mapping_11 : decode cX2_mapping 11 = .ok (.iload_n 3, 1) := by decide +kernel
theorem dX2_mapping_12 : decode cX2_mapping 12 = .ok (.ireturn, 1) := by decide +kernel
theorem dX2_mapping_13 : decode cX2_mapping 13 = .ok (.aload_n 0, 1) := by decide +kernel
theorem dX2_mapping_14 : decode cX2_mapping 14 = .ok (.getfield 11, 3) := by decide +kernel
theorem dX2_mapping_17 : decode cX2_mapping 17 = .ok (.iload_n 1, 1) := by decide +kernel
theorem dX2_mapping_18 : decode cX2_mapping 18 = .ok (.aaload, 1) := by decide +kernel
theorem dX2_mapping_19 : decode cX2_mapping 19 = .ok (.getfield 114, 3) := by decide +kernel
theorem dX2_mapping_22 : decode cX2_mapping 22 = .ok (.iload_n 2, 1) := by decide +kernel
theorem dX2_mapping_23 : decode cX2_mapping 23 = .ok (.iaload, 1) := by decide +kernel
theorem dX2_mapping_24 : decode cX2_mapping 24 = .ok (.ireturn, 1) := by decide +kernel
theorem dX2_twin_0 : decode cX2_twin 0 = .ok (.aload_n 0, 1) := by decide +kernel
theorem dX2_twin_1 : decode cX2_twin 1 = .ok (.iload_n 3, 1) := by decide +kernel
theorem dX2_twin_2 : decode cX2_twin 2 = .ok (.invokevirtual 38, 3) := by decide +kernel
theorem dX2_twin_5 : decode cX2_twin 5 = .ok (.ifCond .ne 5, 3) := by decide +kernel
theorem dX2_twin_8 : decode cX2_twin 8 = .ok (.iconst (-1), 1) := by decide +kernel
theorem dX2_twin_9 : decode cX2_twin 9 = .ok (.ireturn, 1) := by decide +kernel
theorem dX2_twin_10 : decode cX2_twin 10 = .ok (.aload_n 0, 1) := by decide +kernel
theorem dX2_twin_11 : decode cX2_twin 11 = .ok (.iload_n 1, 1) := by decide +kernel
theorem dX2_twin_12 : decode cX2_twin 12 = .ok (.iload_n 2, 1) := by decide +kernel
theorem dX2_twin_13 : decode cX2_twin 13 = .ok (.invokevirtual 82, 3) := by decide +kernel
theorem dX2_twin_16 : decode cX2_twin 16 = .ok (.istore 5, 2) := by decide +kernel
theorem dX2_twin_18 : decode cX2_twin 18 = .ok (.iload 5, 2) := by decide +kernel
theorem dX2_twin_20 : decode cX2_twin 20 = .ok (.ifCond .eq 6, 3) := by decide +kernel
theorem dX2_twin_23 : decode cX2_twin 23 = .ok (.iload 5, 2) := by decide +kernel
theorem dX2_twin_25 : decode cX2_twin 25 = .ok (.ireturn, 1) := by decide +kernel
theorem dX2_twin_26 : decode cX2_twin 26 = .ok (.aload_n 0, 1) := by decide +kernel
theorem dX2_twin_27 : decode cX2_twin 27 = .ok (.getfield 11, 3) := by decide +kernel
theorem dX2_twin_30 : decode cX2_twin 30 = .ok (.iload_n 1, 1) := by decide +kernel
theorem dX2_twin_31 : decode cX2_twin 31 = .ok (.aaload, 1) := by decide +kernel
theorem dX2_twin_32 : decode cX2_twin 32 = .ok (.getfield 78, 3) := by decide +kernel
theorem dX2_twin_35 : decode cX2_twin 35 = .ok (.iload_n 2, 1) := by decide +kernel
theorem dX2_twin_36 : decode cX2_twin 36 = .ok (.iaload, 1) := by decide +kernel
theorem dX2_twin_37 : decode cX2_twin 37 = .ok (.istore 6, 2) := by decide +kernel
theorem dX2_twin_39 : decode cX2_twin 39 = .ok (.aload_n 0, 1) := by decide +kernel
theorem dX2_twin_40 : decode cX2_twin 40 = .ok (.getfield 11, 3) := by decide +kernel
theorem dX2_twin_43 : decode cX2_twin 43 = .ok (.iload_n 3, 1) := by decide +kernel
theorem dX2_twin_44 : decode cX2_twin 44 = .ok (.aaload, 1) := by decide +kernel
theorem dX2_twin_45 : decode cX2_twin 45 = .ok (.astore 7, 2) := by decide +kernel
theorem dX2_twin_47 : decode cX2_twin 47 = .ok (.iconst 0, 1) := by decide +kernel
theorem dX2_twin_48 : decode cX2_twin 48 = .ok (.istore 8, 2) := by decide +kernel
theorem dX2_twin_50 : decode cX2_twin 50 = .ok (.iload 8, 2) := by decide +kernel
theorem dX2_twin_52 : decode cX2_twin 52 = .ok (.bipush 64, 2) := by decide +kernel
theorem dX2_twin_54 : decode cX2_twin 54 = .ok (.if_icmp .ge 42, 3) := by decide +kernel
theorem dX2_twin_57 : decode cX2_twin 57 = .ok (.iload 8, 2) := by decide +kernel
theorem dX2_twin_59 : decode cX2_twin 59 = .ok (.iload 4, 2) := by decide +kernel
theorem dX2_twin_61 : decode cX2_twin 61 = .ok (.if_icmp .le 29, 3) := by decide +kernel
theorem dX2_twin_64 : decode cX2_twin 64 = .ok (.aload 7, 2) := by decide +kernel
theorem dX2_twin_66 : decode cX2_twin 66 = .ok (.iload 8, 2) := by decide +kernel
theorem dX2_twin_68 : decode cX2_twin 68 = .ok (.invokevirtual 45, 3) := by decide +kernel
theorem dX2_twin_71 : decode cX2_twin 71 = .ok (.ifCond .eq 19, 3) := by decide +kernel
theorem dX2_twin_74 : decode cX2_twin 74 = .ok (.aload 7, 2) := by decide +kernel
theorem dX2_twin_76 : decode cX2_twin 76 = .ok (.getfield 78, 3) := by decide +kernel
theorem dX2_twin_79 : decode cX2_twin 79 = .ok (.iload 8, 2) := by decide +kernel
theorem dX2_twin_81 : decode cX2_twin 81 = .ok (.iaload, 1) := by decide +kernel
theorem dX2_twin_82 : decode cX2_twin 82 = .ok (.iload 6, 2) := by decide +kernel
theorem dX2_twin_84 : decode cX2_twin 84 = .ok (.if_icmp .ne 6, 3) := by decide +kernel
theorem dX2_twin_87 : decode cX2_twin 87 = .ok (.iload 8, 2) := by decide +kernel
theorem dX2_twin_89 : decode cX2_twin 89 = .ok (.ireturn, 1) := by decide +kernel
theorem dX2_twin_90 : decode cX2_twin 90 = .ok (.iinc 8 1, 3) := by decide +kernel
theorem dX2_twin_93 : decode cX2_twin 93 = .ok (.goto (-43), 3) := by decide +kernel
theorem dX2_twin_96 : decode cX2_twin 96 = .ok (.bipush 64, 2) := by decide +kernel
theorem dX2_twin_98 : decode cX2_twin 98 = .ok (.ireturn, 1) := by decide +kernel
theorem dX2_running_0 : decode cX2_running 0 = .ok (.iconst 0, 1) := by decide +kernel
theorem dX2_running_1 : decode cX2_running 1 = .ok (.istore_n 1, 1) := by decide +kernel
theorem dX2_running_2 : decode cX2_running 2 = .ok (.iconst 0, 1) := by decide +kernel
theorem dX2_running_3 : decode cX2_running 3 = .ok (.istore_n 2, 1) := by decide +kernel
theorem dX2_running_4 : decode cX2_running 4 = .ok (.iload_n 2, 1) := by decide +kernel
theorem dX2_running_5 : decode cX2_running 5 = .ok (.iconst 5, 1) := by decide +kernel
theorem dX2_running_6 : decode cX2_running 6 = .ok (.if_icmp .ge 27, 3) := by decide +kernel
theorem dX2_running_9 : decode cX2_running 9 = .ok (.aload_n 0, 1) := by decide +kernel
theorem dX2_running_10 : decode cX2_running 10 = .ok (.getfield 11, 3) := by decide +kernel
theorem dX2_running_13 : decode cX2_running 13 = .ok (.iload_n 2, 1) := by decide +kernel
theorem dX2_running_14 : decode cX2_running 14 = .ok (.aaload, 1) := by decide +kernel
theorem dX2_running_15 : decode cX2_running 15 = .ok (.getfield 34, 3) := by decide +kernel
theorem dX2_running_18 : decode cX2_running 18 = .ok (.ifCond .eq 9, 3) := by decide +kernel
theorem dX2_running_21 : decode cX2_running 21 = .ok (.iload_n 1, 1) := by decide +kernel
theorem dX2_running_22 : decode cX2_running 22 = .ok (.iconst 1, 1) := by decide +kernel
theorem dX2_running_23 : decode cX2_running 23 = .ok (.iload_n 2, 1) := by decide +kernel
theorem dX2_running_24 : decode cX2_running 24 = .ok (.ishl, 1) := by decide +kernel
theorem dX2_running_25 : decode cX2_running 25 = .ok (.iadd, 1) := by decide +kernel
theorem dX2_running_26 : decode cX2_running 26 = .ok (.istore_n 1, 1) := by decide +kernel
theorem dX2_running_27 : decode cX2_running 27 = .ok (.iinc 2 1, 3) := by decide +kernel
theorem dX2_running_30 : decode cX2_running 30 = .ok (.goto (-26), 3) := by decide +kernel
theorem dX2_running_33 : decode cX2_running 33 = .ok (.iload_n 1, 1) := by decide +kernel
theorem dX2_running_34 : decode cX2_running 34 = .ok (.ireturn, 1) := by decide +kernel
theorem dX2_faults_0 : decode cX2_faults 0 = .ok (.iload_n 1, 1) := by decide +kernel
theorem dX2_faults_1 : decode cX2_faults 1 = .ok (.ifCond .eq 10, 3) := by decide +kernel
theorem dX2_faults_4 : decode cX2_faults 4 = .ok (.aload_n 0, 1) := by decide +kernel
theorem dX2_faults_5 : decode cX2_faults 5 = .ok (.getfield 117, 3) := by decide +kernel
theorem dX2_faults_8 : decode cX2_faults 8 = .ok (.goto 7, 3) := by decide +kernel
theorem dX2_faults_11 : decode cX2_faults 11 = .ok (.aload_n 0, 1) := by decide +kernel
theorem dX2_faults_12 : decode cX2_faults 12 = .ok (.getfield 121, 3) := by decide +kernel
theorem dX2_faults_15 : decode cX2_faults 15 = .ok (.ireturn, 1) := by decide +kernel
theorem dX2_isRunning_0 : decode cX2_isRunning 0 = .ok (.iload_n 1, 1) := by decide +kernel
theorem dX2_isRunning_1 : decode cX2_isRunning 1 = .ok (.ifCond .lt 24, 3) := by decide +kernel
theorem dX2_isRunning_4 : decode cX2_isRunning 4 = .ok (.iload_n 1, 1) := by decide +kernel
theorem dX2_isRunning_5 : decode cX2_isRunning 5 = .ok (.iconst 5, 1) := by decide +kernel
theorem dX2_isRunning_6 : decode cX2_isRunning 6 = .ok (.if_icmp .ge 19, 3) := by decide +kernel
theorem dX2_isRunning_9 : decode cX2_isRunning 9 = .ok (.aload_n 0, 1) := by decide +kernel
theorem dX2_isRunning_10 : decode cX2_isRunning 10 = .ok (.getfield 11, 3) := by decide +kernel
theorem dX2_isRunning_13 : decode cX2_isRunning 13 = .ok (.iload_n 1, 1) := by decide +kernel
theorem dX2_isRunning_14 : decode cX2_isRunning 14 = .ok (.aaload, 1) := by decide +kernel
theorem dX2_isRunning_15 : decode cX2_isRunning 15 = .ok (.getfield 34, 3) := by decide +kernel
theorem dX2_isRunning_18 : decode cX2_isRunning 18 = .ok (.ifCond .eq 7, 3) := by decide +kernel
theorem dX2_isRunning_21 : decode cX2_isRunning 21 = .ok (.iconst 1, 1) := by decide +kernel
theorem dX2_isRunning_22 : decode cX2_isRunning 22 = .ok (.goto 4, 3) := by decide +kernel
theorem dX2_isRunning_25 : decode cX2_isRunning 25 = .ok (.iconst 0, 1) := by decide +kernel
theorem dX2_isRunning_26 : decode cX2_isRunning 26 = .ok (.ireturn, 1) := by decide +kernel
theorem dX2_isPage_0 : decode cX2_isPage 0 = .ok (.iload_n 0, 1) := by decide +kernel
theorem dX2_isPage_1 : decode cX2_isPage 1 = .ok (.ifCond .lt 13, 3) := by decide +kernel
theorem dX2_isPage_4 : decode cX2_isPage 4 = .ok (.iload_n 0, 1) := by decide +kernel
theorem dX2_isPage_5 : decode cX2_isPage 5 = .ok (.bipush 64, 2) := by decide +kernel
theorem dX2_isPage_7 : decode cX2_isPage 7 = .ok (.if_icmp .ge 7, 3) := by decide +kernel
theorem dX2_isPage_10 : decode cX2_isPage 10 = .ok (.iconst 1, 1) := by decide +kernel
theorem dX2_isPage_11 : decode cX2_isPage 11 = .ok (.goto 4, 3) := by decide +kernel
theorem dX2_isPage_14 : decode cX2_isPage 14 = .ok (.iconst 0, 1) := by decide +kernel
theorem dX2_isPage_15 : decode cX2_isPage 15 = .ok (.ireturn, 1) := by decide +kernel
theorem dX2_refusalOfMapped_0 : decode cX2_refusalOfMapped 0 = .ok (.aload_n 0, 1) := by decide +kernel
theorem dX2_refusalOfMapped_1 : decode cX2_refusalOfMapped 1 = .ok (.iload_n 1, 1) := by decide +kernel
theorem dX2_refusalOfMapped_2 : decode cX2_refusalOfMapped 2 = .ok (.invokevirtual 38, 3) := by decide +kernel
theorem dX2_refusalOfMapped_5 : decode cX2_refusalOfMapped 5 = .ok (.ifCond .ne 5, 3) := by decide +kernel
theorem dX2_refusalOfMapped_8 : decode cX2_refusalOfMapped 8 = .ok (.iconst (-1), 1) := by decide +kernel
theorem dX2_refusalOfMapped_9 : decode cX2_refusalOfMapped 9 = .ok (.ireturn, 1) := by decide +kernel
theorem dX2_refusalOfMapped_10 : decode cX2_refusalOfMapped 10 = .ok (.iload_n 2, 1) := by decide +kernel
theorem dX2_refusalOfMapped_11 : decode cX2_refusalOfMapped 11 = .ok (.invokestatic 56, 3) := by decide +kernel
theorem dX2_refusalOfMapped_14 : decode cX2_refusalOfMapped 14 = .ok (.ifCond .ne 6, 3) := by decide +kernel
theorem dX2_refusalOfMapped_17 : decode cX2_refusalOfMapped 17 = .ok (.bipush (-2), 2) := by decide +kernel
theorem dX2_refusalOfMapped_19 : decode cX2_refusalOfMapped 19 = .ok (.ireturn, 1) := by decide +kernel
theorem dX2_refusalOfMapped_20 : decode cX2_refusalOfMapped 20 = .ok (.aload_n 0, 1) := by decide +kernel
theorem dX2_refusalOfMapped_21 : decode cX2_refusalOfMapped 21 = .ok (.getfield 11, 3) := by decide +kernel
theorem dX2_refusalOfMapped_24 : decode cX2_refusalOfMapped 24 = .ok (.iload_n 1, 1) := by decide +kernel
theorem dX2_refusalOfMapped_25 : decode cX2_refusalOfMapped 25 = .ok (.aaload, 1) := by decide +kernel
theorem dX2_refusalOfMapped_26 : decode cX2_refusalOfMapped 26 = .ok (.iload_n 2, 1) := by decide +kernel
theorem dX2_refusalOfMapped_27 : decode cX2_refusalOfMapped 27 = .ok (.invokevirtual 45, 3) := by decide +kernel
theorem dX2_refusalOfMapped_30 : decode cX2_refusalOfMapped 30 = .ok (.ifCond .eq 7, 3) := by decide +kernel
theorem dX2_refusalOfMapped_33 : decode cX2_refusalOfMapped 33 = .ok (.iconst 0, 1) := by decide +kernel
theorem dX2_refusalOfMapped_34 : decode cX2_refusalOfMapped 34 = .ok (.goto 5, 3) := by decide +kernel
theorem dX2_refusalOfMapped_37 : decode cX2_refusalOfMapped 37 = .ok (.bipush (-3), 2) := by decide +kernel
theorem dX2_refusalOfMapped_39 : decode cX2_refusalOfMapped 39 = .ok (.ireturn, 1) := by decide +kernel
theorem dX2_refusalOfAddress_0 : decode cX2_refusalOfAddress 0 = .ok (.aload_n 0, 1) := by decide +kernel
theorem dX2_refusalOfAddress_1 : decode cX2_refusalOfAddress 1 = .ok (.iload_n 1, 1) := by decide +kernel
theorem dX2_refusalOfAddress_2 : decode cX2_refusalOfAddress 2 = .ok (.iload_n 2, 1) := by decide +kernel
theorem dX2_refusalOfAddress_3 : decode cX2_refusalOfAddress 3 = .ok (.ifCond .ge 7, 3) := by decide +kernel
theorem dX2_refusalOfAddress_6 : decode cX2_refusalOfAddress 6 = .ok (.iconst (-1), 1) := by decide +kernel
theorem dX2_refusalOfAddress_7 : decode cX2_refusalOfAddress 7 = .ok (.goto 6, 3) := by decide +kernel
theorem dX2_refusalOfAddress_10 : decode cX2_refusalOfAddress 10 = .ok (.iload_n 2, 1) := by decide +kernel
theorem dX2_refusalOfAddress_11 : decode cX2_refusalOfAddress 11 = .ok (.iconst 4, 1) := by decide +kernel
theorem dX2_refusalOfAddress_12 : decode cX2_refusalOfAddress 12 = .ok (.idiv, 1) := by decide +kernel
theorem dX2_refusalOfAddress_13 : decode cX2_refusalOfAddress 13 = .ok (.invokevirtual 82, 3) := by decide +kernel
theorem dX2_refusalOfAddress_16 : decode cX2_refusalOfAddress 16 = .ok (.ireturn, 1) := by decide +kernel
theorem dX2_leastIdle_0 : decode cX2_leastIdle 0 = .ok (.iconst 0, 1) := by decide +kernel
theorem dX2_leastIdle_1 : decode cX2_leastIdle 1 = .ok (.istore_n 1, 1) := by decide +kernel
theorem dX2_leastIdle_2 : decode cX2_leastIdle 2 = .ok (.iload_n 1, 1) := by decide +kernel
theorem dX2_leastIdle_3 : decode cX2_leastIdle 3 = .ok (.iconst 5, 1) := by decide +kernel
theorem dX2_leastIdle_4 : decode cX2_leastIdle 4 = .ok (.if_icmp .ge 23, 3) := by decide +kernel
theorem dX2_leastIdle_7 : decode cX2_leastIdle 7 = .ok (.aload_n 0, 1) := by decide +kernel
theorem dX2_leastIdle_8 : decode cX2_leastIdle 8 = .ok (.getfield 11, 3) := by decide +kernel
theorem dX2_leastIdle_11 : decode cX2_leastIdle 11 = .ok (.iload_n 1, 1) := by decide +kernel
theorem dX2_leastIdle_12 : decode cX2_leastIdle 12 = .ok (.aaload, 1) := by decide +kernel
theorem dX2_leastIdle_13 : decode cX2_leastIdle 13 = .ok (.getfield 34, 3) := by decide +kernel
theorem dX2_leastIdle_16 : decode cX2_leastIdle 16 = .ok (.ifCond .ne 5, 3) := by decide +kernel
theorem dX2_leastIdle_19 : decode cX2_leastIdle 19 = .ok (.iload_n 1, 1) := by decide +kernel
theorem dX2_leastIdle_20 : decode cX2_leastIdle 20 = .ok (.ireturn, 1) := by decide +kernel
theorem dX2_leastIdle_21 : decode cX2_leastIdle 21 = .ok (.iinc 1 1, 3) := by decide +kernel
theorem dX2_leastIdle_24 : decode cX2_leastIdle 24 = .ok (.goto (-22), 3) := by decide +kernel
theorem dX2_leastIdle_27 : decode cX2_leastIdle 27 = .ok (.iconst (-1), 1) := by decide +kernel
theorem dX2_leastIdle_28 : decode cX2_leastIdle 28 = .ok (.ireturn, 1) := by decide +kernel
theorem dX2_freeFrames_0 : decode cX2_freeFrames 0 = .ok (.bipush 24, 2) := by decide +kernel
theorem dX2_freeFrames_2 : decode cX2_freeFrames 2 = .ok (.aload_n 0, 1) := by decide +kernel
theorem dX2_freeFrames_3 : decode cX2_freeFrames 3 = .ok (.getfield 19, 3) := by decide +kernel
theorem dX2_freeFrames_6 : decode cX2_freeFrames 6 = .ok (.invokevirtual 124, 3) := by decide +kernel
theorem dX2_freeFrames_9 : decode cX2_freeFrames 9 = .ok (.isub, 1) := by decide +kernel
theorem dX2_freeFrames_10 : decode cX2_freeFrames 10 = .ok (.istore_n 1, 1) := by decide +kernel
theorem dX2_freeFrames_11 : decode cX2_freeFrames 11 = .ok (.iconst 0, 1) := by decide +kernel
theorem dX2_freeFrames_12 : decode cX2_freeFrames 12 = .ok (.istore_n 2, 1) := by decide +kernel
theorem dX2_freeFrames_13 : decode cX2_freeFrames 13 = .ok (.iload_n 2, 1) := by decide +kernel
theorem dX2_freeFrames_14 : decode cX2_freeFrames 14 = .ok (.iconst 5, 1) := by decide +kernel
theorem dX2_freeFrames_15 : decode cX2_freeFrames 15 = .ok (.if_icmp .ge 33, 3) := by decide +kernel
theorem dX2_freeFrames_18 : decode cX2_freeFrames 18 = .ok (.aload_n 0, 1) := by decide +kernel
theorem dX2_freeFrames_19 : decode cX2_freeFrames 19 = .ok (.getfield 11, 3) := by decide +kernel
theorem dX2_freeFrames_22 : decode cX2_freeFrames 22 = .ok (.iload_n 2, 1) := by decide +kernel
theorem dX2_freeFrames_23 : decode cX2_freeFrames 23 = .ok (.aaload, 1) := by decide +kernel
theorem dX2_freeFrames_24 : decode cX2_freeFrames 24 = .ok (.getfield 34, 3) := by decide +kernel
theorem dX2_freeFrames_27 : decode cX2_freeFrames 27 = .ok (.ifCond .eq 15, 3) := by decide +kernel
theorem dX2_freeFrames_30 : decode cX2_freeFrames 30 = .ok (.iload_n 1, 1) := by decide +kernel
theorem dX2_freeFrames_31 : decode cX2_freeFrames 31 = .ok (.aload_n 0, 1) := by decide +kernel
theorem dX2_freeFrames_32 : decode cX2_freeFrames 32 = .ok (.getfield 11, 3) := by decide +kernel
theorem dX2_freeFrames_35 : decode cX2_freeFrames 35 = .ok (.iload_n 2, 1) := by decide +kernel
theorem dX2_freeFrames_36 : decode cX2_freeFrames 36 = .ok (.aaload, 1) := by decide +kernel
theorem dX2_freeFrames_37 : decode cX2_freeFrames 37 = .ok (.invokevirtual 42, 3) := by decide +kernel
theorem dX2_freeFrames_40 : decode cX2_freeFrames 40 = .ok (.isub, 1) := by decide +kernel
theorem dX2_freeFrames_41 : decode cX2_freeFrames 41 = .ok (.istore_n 1, 1) := by decide +kernel
theorem dX2_freeFrames_42 : decode cX2_freeFrames 42 = .ok (.iinc 2 1, 3) := by decide +kernel
theorem dX2_freeFrames_45 : decode cX2_freeFrames 45 = .ok (.goto (-32), 3) := by decide +kernel
theorem dX2_freeFrames_48 : decode cX2_freeFrames 48 = .ok (.iload_n 1, 1) := by decide +kernel
theorem dX2_freeFrames_49 : decode cX2_freeFrames 49 = .ok (.ireturn, 1) := by decide +kernel
theorem dX2_startMapping_0 : decode cX2_startMapping 0 = .ok (.aload_n 1, 1) := by decide +kernel
theorem dX2_startMapping_1 : decode cX2_startMapping 1 = .ok (.iload_n 2, 1) := by decide +kernel
theorem dX2_startMapping_2 : decode cX2_startMapping 2 = .ok (.iload_n 3, 1) := by decide +kernel
theorem dX2_startMapping_3 : decode cX2_startMapping 3 = .ok (.iload 4, 2) := by decide +kernel
theorem dX2_startMapping_5 : decode cX2_startMapping 5 = .ok (.invokevirtual 127, 3) := by decide +kernel
theorem dX2_startMapping_8 : decode cX2_startMapping 8 = .ok (.aload_n 0, 1) := by decide +kernel
theorem dX2_startMapping_9 : decode cX2_startMapping 9 = .ok (.getfield 19, 3) := by decide +kernel
theorem dX2_startMapping_12 : decode cX2_startMapping 12 = .ok (.getfield 111, 3) := by decide +kernel
theorem dX2_startMapping_15 : decode cX2_startMapping 15 = .ok (.iload_n 3, 1) := by decide +kernel
theorem dX2_startMapping_16 : decode cX2_startMapping 16 = .ok (.dup2, 1) := by decide +kernel
theorem dX2_startMapping_17 : decode cX2_startMapping 17 = .ok (.iaload, 1) := by decide +kernel
theorem dX2_startMapping_18 : decode cX2_startMapping 18 = .ok (.iconst 1, 1) := by decide +kernel
theorem dX2_startMapping_19 : decode cX2_startMapping 19 = .ok (.iadd, 1) := by decide +kernel
theorem dX2_startMapping_20 : decode cX2_startMapping 20 = .ok (.iastore, 1) := by decide +kernel
theorem dX2_startMapping_21 : decode cX2_startMapping 21 = .ok (.return_, 1) := by decide +kernel
theorem dX2_endMapping_0 : decode cX2_endMapping 0 = .ok (.aload_n 0, 1) := by decide +kernel
theorem dX2_endMapping_1 : decode cX2_endMapping 1 = .ok (.getfield 19, 3) := by decide +kernel
theorem dX2_endMapping_4 : decode cX2_endMapping 4 = .ok (.getfield 111, 3) := by decide +kernel
theorem dX2_endMapping_7 : decode cX2_endMapping 7 = .ok (.aload_n 1, 1) := by decide +kernel
theorem dX2_endMapping_8 : decode cX2_endMapping 8 = .ok (.getfield 78, 3) := by decide +kernel
theorem dX2_endMapping_11 : decode cX2_endMapping 11 = .ok (.iload_n 2, 1) := by decide +kernel
theorem dX2_endMapping_12 : decode cX2_endMapping 12 = .ok (.iaload, 1) := by decide +kernel
theorem dX2_endMapping_13 : decode cX2_endMapping 13 = .ok (.dup2, 1) := by decide +kernel
theorem dX2_endMapping_14 : decode cX2_endMapping 14 = .ok (.iaload, 1) := by decide +kernel
theorem dX2_endMapping_15 : decode cX2_endMapping 15 = .ok (.iconst 1, 1) := by decide +kernel
theorem dX2_endMapping_16 : decode cX2_endMapping 16 = .ok (.isub, 1) := by decide +kernel
theorem dX2_endMapping_17 : decode cX2_endMapping 17 = .ok (.iastore, 1) := by decide +kernel
theorem dX2_endMapping_18 : decode cX2_endMapping 18 = .ok (.aload_n 1, 1) := by decide +kernel
theorem dX2_endMapping_19 : decode cX2_endMapping 19 = .ok (.iload_n 2, 1) := by decide +kernel
theorem dX2_endMapping_20 : decode cX2_endMapping 20 = .ok (.invokevirtual 131, 3) := by decide +kernel
theorem dX2_endMapping_23 : decode cX2_endMapping 23 = .ok (.return_, 1) := by decide +kernel
theorem dX2_sharePage_0 : decode cX2_sharePage 0 = .ok (.aload_n 1, 1) := by decide +kernel
theorem dX2_sharePage_1 : decode cX2_sharePage 1 = .ok (.iconst 2, 1) := by decide +kernel
theorem dX2_sharePage_2 : decode cX2_sharePage 2 = .ok (.iload_n 3, 1) := by decide +kernel
theorem dX2_sharePage_3 : decode cX2_sharePage 3 = .ok (.invokevirtual 74, 3) := by decide +kernel
theorem dX2_sharePage_6 : decode cX2_sharePage 6 = .ok (.ifCond .ne 18, 3) := by decide +kernel
theorem dX2_sharePage_9 : decode cX2_sharePage 9 = .ok (.aload_n 1, 1) := by decide +kernel
theorem dX2_sharePage_10 : decode cX2_sharePage 10 = .ok (.iconst 4, 1) := by decide +kernel
theorem dX2_sharePage_11 : decode cX2_sharePage 11 = .ok (.iload_n 3, 1) := by decide +kernel
theorem dX2_sharePage_12 : decode cX2_sharePage 12 = .ok (.invokevirtual 74, 3) := by decide +kernel
theorem dX2_sharePage_15 : decode cX2_sharePage 15 = .ok (.ifCond .ne 9, 3) := by decide +kernel
theorem dX2_sharePage_18 : decode cX2_sharePage 18 = .ok (.aload_n 1, 1) := by decide +kernel
theorem dX2_sharePage_19 : decode cX2_sharePage 19 = .ok (.iconst 4, 1) := by decide +kernel
theorem dX2_sharePage_20 : decode cX2_sharePage 20 = .ok (.iload_n 3, 1) := by decide +kernel
theorem dX2_sharePage_21 : decode cX2_sharePage 21 = .ok (.invokevirtual 86, 3) := by decide +kernel
theorem dX2_sharePage_24 : decode cX2_sharePage 24 = .ok (.aload_n 0, 1) := by decide +kernel
theorem dX2_sharePage_25 : decode cX2_sharePage 25 = .ok (.aload_n 2, 1) := by decide +kernel
theorem dX2_sharePage_26 : decode cX2_sharePage 26 = .ok (.iload_n 3, 1) := by decide +kernel
theorem dX2_sharePage_27 : decode cX2_sharePage 27 = .ok (.aload_n 1, 1) := by decide +kernel
theorem dX2_sharePage_28 : decode cX2_sharePage 28 = .ok (.getfield 78, 3) := by decide +kernel
theorem dX2_sharePage_31 : decode cX2_sharePage 31 = .ok (.iload_n 3, 1) := by decide +kernel
theorem dX2_sharePage_32 : decode cX2_sharePage 32 = .ok (.iaload, 1) := by decide +kernel
theorem dX2_sharePage_33 : decode cX2_sharePage 33 = .ok (.aload_n 1, 1) := by decide +kernel
theorem dX2_sharePage_34 : decode cX2_sharePage 34 = .ok (.getfield 114, 3) := by decide +kernel
theorem dX2_sharePage_37 : decode cX2_sharePage 37 = .ok (.iload_n 3, 1) := by decide +kernel
theorem dX2_sharePage_38 : decode cX2_sharePage 38 = .ok (.iaload, 1) := by decide +kernel
theorem dX2_sharePage_39 : decode cX2_sharePage 39 = .ok (.invokevirtual 70, 3) := by decide +kernel
theorem dX2_sharePage_42 : decode cX2_sharePage 42 = .ok (.return_, 1) := by decide +kernel
theorem dX2_resolveFault_0 : decode cX2_resolveFault 0 = .ok (.aload_n 1, 1) := by decide +kernel
theorem dX2_resolveFault_1 : decode cX2_resolveFault 1 = .ok (.getfield 78, 3) := by decide +kernel
theorem dX2_resolveFault_4 : decode cX2_resolveFault 4 = .ok (.iload_n 2, 1) := by decide +kernel
theorem dX2_resolveFault_5 : decode cX2_resolveFault 5 = .ok (.iaload, 1) := by decide +kernel
theorem dX2_resolveFault_6 : decode cX2_resolveFault 6 = .ok (.istore_n 3, 1) := by decide +kernel
theorem dX2_resolveFault_7 : decode cX2_resolveFault 7 = .ok (.aload_n 0, 1) := by decide +kernel
theorem dX2_resolveFault_8 : decode cX2_resolveFault 8 = .ok (.getfield 19, 3) := by decide +kernel
theorem dX2_resolveFault_11 : decode cX2_resolveFault 11 = .ok (.getfield 111, 3) := by decide +kernel
theorem dX2_resolveFault_14 : decode cX2_resolveFault 14 = .ok (.iload_n 3, 1) := by decide +kernel
theorem dX2_resolveFault_15 : decode cX2_resolveFault 15 = .ok (.iaload, 1) := by decide +kernel
theorem dX2_resolveFault_16 : decode cX2_resolveFault 16 = .ok (.iconst 1, 1) := by decide +kernel
theorem dX2_resolveFault_17 : decode cX2_resolveFault 17 = .ok (.if_icmp .le 7, 3) := by decide +kernel
theorem dX2_resolveFault_20 : decode cX2_resolveFault 20 = .ok (.iconst 1, 1) := by decide +kernel
theorem dX2_resolveFault_21 : decode cX2_resolveFault 21 = .ok (.goto 4, 3) := by decide +kernel
theorem dX2_resolveFault_24 : decode cX2_resolveFault 24 = .ok (.iconst 0, 1) := by decide +kernel
theorem dX2_resolveFault_25 : decode cX2_resolveFault 25 = .ok (.istore 4, 2) := by decide +kernel
theorem dX2_resolveFault_27 : decode cX2_resolveFault 27 = .ok (.iload 4, 2) := by decide +kernel
theorem dX2_resolveFault_29 : decode cX2_resolveFault 29 = .ok (.ifCond .eq 14, 3) := by decide +kernel
theorem dX2_resolveFault_32 : decode cX2_resolveFault 32 = .ok (.aload_n 0, 1) := by decide +kernel
theorem dX2_resolveFault_33 : decode cX2_resolveFault 33 = .ok (.invokevirtual 27, 3) := by decide +kernel
theorem dX2_resolveFault_36 : decode cX2_resolveFault 36 = .ok (.iconst 1, 1) := by decide +kernel
theorem dX2_resolveFault_37 : decode cX2_resolveFault 37 = .ok (.if_icmp .ge 6, 3) := by decide +kernel
theorem dX2_resolveFault_40 : decode cX2_resolveFault 40 = .ok (.bipush (-8), 2) := by decide +kernel
theorem dX2_resolveFault_42 : decode cX2_resolveFault 42 = .ok (.ireturn, 1) := by decide +kernel
theorem dX2_resolveFault_43 : decode cX2_resolveFault 43 = .ok (.aload_n 0, 1) := by decide +kernel
theorem dX2_resolveFault_44 : decode cX2_resolveFault 44 = .ok (.dup, 1) := by decide +kernel
theorem dX2_resolveFault_45 : decode cX2_resolveFault 45 = .ok (.getfield 121, 3) := by decide +kernel
theorem dX2_resolveFault_48 : decode cX2_resolveFault 48 = .ok (.iconst 1, 1) := by decide +kernel
theorem dX2_resolveFault_49 : decode cX2_resolveFault 49 = .ok (.iadd, 1) := by decide +kernel
theorem dX2_resolveFault_50 : decode cX2_resolveFault 50 = .ok (.putfield 121, 3) := by decide +kernel
theorem dX2_resolveFault_53 : decode cX2_resolveFault 53 = .ok (.aload_n 1, 1) := by decide +kernel
theorem dX2_resolveFault_54 : decode cX2_resolveFault 54 = .ok (.iconst 4, 1) := by decide +kernel
theorem dX2_resolveFault_55 : decode cX2_resolveFault 55 = .ok (.iload_n 2, 1) := by decide +kernel
theorem dX2_resolveFault_56 : decode cX2_resolveFault 56 = .ok (.invokevirtual 86, 3) := by decide +kernel
theorem dX2_resolveFault_59 : decode cX2_resolveFault 59 = .ok (.iload 4, 2) := by decide +kernel
theorem dX2_resolveFault_61 : decode cX2_resolveFault 61 = .ok (.ifCond .ne 5, 3) := by decide +kernel
theorem dX2_resolveFault_64 : decode cX2_resolveFault 64 = .ok (.iconst 1, 1) := by decide +kernel
theorem dX2_resolveFault_65 : decode cX2_resolveFault 65 = .ok (.ireturn, 1) := by decide +kernel
theorem dX2_resolveFault_66 : decode cX2_resolveFault 66 = .ok (.aload_n 0, 1) := by decide +kernel
theorem dX2_resolveFault_67 : decode cX2_resolveFault 67 = .ok (.dup, 1) := by decide +kernel
theorem dX2_resolveFault_68 : decode cX2_resolveFault 68 = .ok (.getfield 117, 3) := by decide +kernel
theorem dX2_resolveFault_71 : decode cX2_resolveFault 71 = .ok (.iconst 1, 1) := by decide +kernel
theorem dX2_resolveFault_72 : decode cX2_resolveFault 72 = .ok (.iadd, 1) := by decide +kernel
theorem dX2_resolveFault_73 : decode cX2_resolveFault 73 = .ok (.putfield 117, 3) := by decide +kernel
theorem dX2_resolveFault_76 : decode cX2_resolveFault 76 = .ok (.aload_n 0, 1) := by decide +kernel
theorem dX2_resolveFault_77 : decode cX2_resolveFault 77 = .ok (.getfield 19, 3) := by decide +kernel
theorem dX2_resolveFault_80 : decode cX2_resolveFault 80 = .ok (.invokevirtual 63, 3) := by decide +kernel
theorem dX2_resolveFault_83 : decode cX2_resolveFault 83 = .ok (.istore 5, 2) := by decide +kernel
theorem dX2_resolveFault_85 : decode cX2_resolveFault 85 = .ok (.aload_n 0, 1) := by decide +kernel
theorem dX2_resolveFault_86 : decode cX2_resolveFault 86 = .ok (.getfield 19, 3) := by decide +kernel
theorem dX2_resolveFault_89 : decode cX2_resolveFault 89 = .ok (.iload_n 3, 1) := by decide +kernel
theorem dX2_resolveFault_90 : decode cX2_resolveFault 90 = .ok (.iload 5, 2) := by decide +kernel
theorem dX2_resolveFault_92 : decode cX2_resolveFault 92 = .ok (.invokevirtual 134, 3) := by decide +kernel
theorem dX2_resolveFault_95 : decode cX2_resolveFault 95 = .ok (.aload_n 1, 1) := by decide +kernel
theorem dX2_resolveFault_96 : decode cX2_resolveFault 96 = .ok (.getfield 114, 3) := by decide +kernel
theorem dX2_resolveFault_99 : decode cX2_resolveFault 99 = .ok (.iload_n 2, 1) := by decide +kernel
theorem dX2_resolveFault_100 : decode cX2_resolveFault 100 = .ok (.iaload, 1) := by decide +kernel
theorem dX2_resolveFault_101 : decode cX2_resolveFault 101 = .ok (.istore 6, 2) := by decide +kernel
theorem dX2_resolveFault_103 : decode cX2_resolveFault 103 = .ok (.aload_n 0, 1) := by decide +kernel
theorem dX2_resolveFault_104 : decode cX2_resolveFault 104 = .ok (.aload_n 1, 1) := by decide +kernel
theorem dX2_resolveFault_105 : decode cX2_resolveFault 105 = .ok (.iload_n 2, 1) := by decide +kernel
theorem dX2_resolveFault_106 : decode cX2_resolveFault 106 = .ok (.invokevirtual 52, 3) := by decide +kernel
theorem dX2_resolveFault_109 : decode cX2_resolveFault 109 = .ok (.aload_n 0, 1) := by decide +kernel
theorem dX2_resolveFault_110 : decode cX2_resolveFault 110 = .ok (.aload_n 1, 1) := by decide +kernel
theorem dX2_resolveFault_111 : decode cX2_resolveFault 111 = .ok (.iload_n 2, 1) := by decide +kernel
theorem dX2_resolveFault_112 : decode cX2_resolveFault 112 = .ok (.iload 5, 2) := by decide +kernel
theorem dX2_resolveFault_114 : decode cX2_resolveFault 114 = .ok (.iload 6, 2) := by decide +kernel
theorem dX2_resolveFault_116 : decode cX2_resolveFault 116 = .ok (.invokevirtual 70, 3) := by decide +kernel
theorem dX2_resolveFault_119 : decode cX2_resolveFault 119 = .ok (.iconst 2, 1) := by decide +kernel
theorem dX2_resolveFault_120 : decode cX2_resolveFault 120 = .ok (.ireturn, 1) := by decide +kernel
theorem dJ13_bitCount_95d88_0 : decode cJ13_bitCount_95d88 0 = .ok (.lload_n 0, 1) := by decide +kernel
theorem dJ13_bitCount_95d88_1 : decode cJ13_bitCount_95d88 1 = .ok (.lload_n 0, 1) := by decide +kernel
theorem dJ13_bitCount_95d88_2 : decode cJ13_bitCount_95d88 2 = .ok (.iconst 1, 1) := by decide +kernel
theorem dJ13_bitCount_95d88_3 : decode cJ13_bitCount_95d88 3 = .ok (.lushr, 1) := by decide +kernel
theorem dJ13_bitCount_95d88_4 : decode cJ13_bitCount_95d88 4 = .ok (.ldc2_w 314, 3) := by decide +kernel
theorem dJ13_bitCount_95d88_7 : decode cJ13_bitCount_95d88 7 = .ok (.land, 1) := by decide +kernel
theorem dJ13_bitCount_95d88_8 : decode cJ13_bitCount_95d88 8 = .ok (.lsub, 1) := by decide +kernel
theorem dJ13_bitCount_95d88_9 : decode cJ13_bitCount_95d88 9 = .ok (.lstore_n 0, 1) := by decide +kernel
theorem dJ13_bitCount_95d88_10 : decode cJ13_bitCount_95d88 10 = .ok (.lload_n 0, 1) := by decide +kernel
theorem dJ13_bitCount_95d88_11 : decode cJ13_bitCount_95d88 11 = .ok (.ldc2_w 316, 3) := by decide +kernel
theorem dJ13_bitCount_95d88_14 : decode cJ13_bitCount_95d88 14 = .ok (.land, 1) := by decide +kernel
theorem dJ13_bitCount_95d88_15 : decode cJ13_bitCount_95d88 15 = .ok (.lload_n 0, 1) := by decide +kernel
theorem dJ13_bitCount_95d88_16 : decode cJ13_bitCount_95d88 16 = .ok (.iconst 2, 1) := by decide +kernel
theorem dJ13_bitCount_95d88_17 : decode cJ13_bitCount_95d88 17 = .ok (.lushr, 1) := by decide +kernel
theorem dJ13_bitCount_95d88_18 : decode cJ13_bitCount_95d88 18 = .ok (.ldc2_w 316, 3) := by decide +kernel
theorem dJ13_bitCount_95d88_21 : decode cJ13_bitCount_95d88 21 = .ok (.land, 1) := by decide +kernel
theorem dJ13_bitCount_95d88_22 : decode cJ13_bitCount_95d88 22 = .ok (.ladd, 1) := by decide +kernel
theorem dJ13_bitCount_95d88_23 : decode cJ13_bitCount_95d88 23 = .ok (.lstore_n 0, 1) := by decide +kernel
theorem dJ13_bitCount_95d88_24 : decode cJ13_bitCount_95d88 24 = .ok (.lload_n 0, 1) := by decide +kernel
theorem dJ13_bitCount_95d88_25 : decode cJ13_bitCount_95d88 25 = .ok (.lload_n 0, 1) := by decide +kernel
theorem dJ13_bitCount_95d88_26 : decode cJ13_bitCount_95d88 26 = .ok (.iconst 4, 1) := by decide +kernel
theorem dJ13_bitCount_95d88_27 : decode cJ13_bitCount_95d88 27 = .ok (.lushr, 1) := by decide +kernel
theorem dJ13_bitCount_95d88_28 : decode cJ13_bitCount_95d88 28 = .ok (.ladd, 1) := by decide +kernel
theorem dJ13_bitCount_95d88_29 : decode cJ13_bitCount_95d88 29 = .ok (.ldc2_w 318, 3) := by decide +kernel
theorem dJ13_bitCount_95d88_32 : decode cJ13_bitCount_95d88 32 = .ok (.land, 1) := by decide +kernel
theorem dJ13_bitCount_95d88_33 : decode cJ13_bitCount_95d88 33 = .ok (.lstore_n 0, 1) := by decide +kernel
theorem dJ13_bitCount_95d88_34 : decode cJ13_bitCount_95d88 34 = .ok (.lload_n 0, 1) := by decide +kernel
theorem dJ13_bitCount_95d88_35 : decode cJ13_bitCount_95d88 35 = .ok (.lload_n 0, 1) := by decide +kernel
theorem dJ13_bitCount_95d88_36 : decode cJ13_bitCount_95d88 36 = .ok (.bipush 8, 2) := by decide +kernel
theorem dJ13_bitCount_95d88_38 : decode cJ13_bitCount_95d88 38 = .ok (.lushr, 1) := by decide +kernel
theorem dJ13_bitCount_95d88_39 : decode cJ13_bitCount_95d88 39 = .ok (.ladd, 1) := by decide +kernel
theorem dJ13_bitCount_95d88_40 : decode cJ13_bitCount_95d88 40 = .ok (.lstore_n 0, 1) := by decide +kernel
theorem dJ13_bitCount_95d88_41 : decode cJ13_bitCount_95d88 41 = .ok (.lload_n 0, 1) := by decide +kernel
theorem dJ13_bitCount_95d88_42 : decode cJ13_bitCount_95d88 42 = .ok (.lload_n 0, 1) := by decide +kernel
theorem dJ13_bitCount_95d88_43 : decode cJ13_bitCount_95d88 43 = .ok (.bipush 16, 2) := by decide +kernel
theorem dJ13_bitCount_95d88_45 : decode cJ13_bitCount_95d88 45 = .ok (.lushr, 1) := by decide +kernel
theorem dJ13_bitCount_95d88_46 : decode cJ13_bitCount_95d88 46 = .ok (.ladd, 1) := by decide +kernel
theorem dJ13_bitCount_95d88_47 : decode cJ13_bitCount_95d88 47 = .ok (.lstore_n 0, 1) := by decide +kernel
theorem dJ13_bitCount_95d88_48 : decode cJ13_bitCount_95d88 48 = .ok (.lload_n 0, 1) := by decide +kernel
theorem dJ13_bitCount_95d88_49 : decode cJ13_bitCount_95d88 49 = .ok (.lload_n 0, 1) := by decide +kernel
theorem dJ13_bitCount_95d88_50 : decode cJ13_bitCount_95d88 50 = .ok (.bipush 32, 2) := by decide +kernel
theorem dJ13_bitCount_95d88_52 : decode cJ13_bitCount_95d88 52 = .ok (.lushr, 1) := by decide +kernel
theorem dJ13_bitCount_95d88_53 : decode cJ13_bitCount_95d88 53 = .ok (.ladd, 1) := by decide +kernel
theorem dJ13_bitCount_95d88_54 : decode cJ13_bitCount_95d88 54 = .ok (.lstore_n 0, 1) := by decide +kernel
theorem dJ13_bitCount_95d88_55 : decode cJ13_bitCount_95d88 55 = .ok (.lload_n 0, 1) := by decide +kernel
theorem dJ13_bitCount_95d88_56 : decode cJ13_bitCount_95d88 56 = .ok (.l2i, 1) := by decide +kernel
theorem dJ13_bitCount_95d88_57 : decode cJ13_bitCount_95d88 57 = .ok (.bipush 127, 2) := by decide +kernel
theorem dJ13_bitCount_95d88_59 : decode cJ13_bitCount_95d88 59 = .ok (.iand, 1) := by decide +kernel
theorem dJ13_bitCount_95d88_60 : decode cJ13_bitCount_95d88 60 = .ok (.ireturn, 1) := by decide +kernel
theorem dL_law_0 : decode cL_law 0 = .ok (.new 7, 3) := by decide +kernel
theorem dL_law_3 : decode cL_law 3 = .ok (.dup, 1) := by decide +kernel
theorem dL_law_4 : decode cL_law 4 = .ok (.invokespecial 9, 3) := by decide +kernel
theorem dL_law_7 : decode cL_law 7 = .ok (.astore_n 1, 1) := by decide +kernel
theorem dL_law_8 : decode cL_law 8 = .ok (.new 10, 3) := by decide +kernel
theorem dL_law_11 : decode cL_law 11 = .ok (.dup, 1) := by decide +kernel
theorem dL_law_12 : decode cL_law 12 = .ok (.invokespecial 12, 3) := by decide +kernel
theorem dL_law_15 : decode cL_law 15 = .ok (.astore_n 2, 1) := by decide +kernel
theorem dL_law_16 : decode cL_law 16 = .ok (.iconst 0, 1) := by decide +kernel
theorem dL_law_17 : decode cL_law 17 = .ok (.istore_n 3, 1) := by decide +kernel
theorem dL_law_18 : decode cL_law 18 = .ok (.iload_n 3, 1) := by decide +kernel
theorem dL_law_19 : decode cL_law 19 = .ok (.aload_n 0, 1) := by decide +kernel
theorem dL_law_20 : decode cL_law 20 = .ok (.arraylength, 1) := by decide +kernel
theorem dL_law_21 : decode cL_law 21 = .ok (.iconst 5, 1) := by decide +kernel
theorem dL_law_22 : decode cL_law 22 = .ok (.isub, 1) := by decide +kernel
theorem dL_law_23 : decode cL_law 23 = .ok (.if_icmp .gt 669, 3) := by decide +kernel
theorem dL_law_26 : decode cL_law 26 = .ok (.aload_n 0, 1) := by decide +kernel
theorem dL_law_27 : decode cL_law 27 = .ok (.iload_n 3, 1) := by decide +kernel
theorem dL_law_28 : decode cL_law 28 = .ok (.iaload, 1) := by decide +kernel
theorem dL_law_29 : decode cL_law 29 = .ok (.bipush 31, 2) := by decide +kernel
theorem dL_law_31 : decode cL_law 31 = .ok (.iand, 1) := by decide +kernel
theorem dL_law_32 : decode cL_law 32 = .ok (.tableswitch 654 0 16 #[84, 97, 120, 143, 202, 255, 288, 347, 390, 424, 437, 460, 483, 516, 549, 602, 615], 84) := by decide +kernel
theorem dL_law_116 : decode cL_law 116 = .ok (.aload_n 1, 1) := by decide +kernel
theorem dL_law_117 : decode cL_law 117 = .ok (.invokevirtual 13, 3) := by decide +kernel
theorem dL_law_120 : decode cL_law 120 = .ok (.aload_n 2, 1) := by decide +kernel
theorem dL_law_121 : decode cL_law 121 = .ok (.invokevirtual 17, 3) := by decide +kernel
theorem dL_law_124 : decode cL_law 124 = .ok (.if_icmp .eq 562, 3) := by decide +kernel
theorem dL_law_127 : decode cL_law 127 = .ok (.iconst 0, 1) := by decide +kernel
theorem dL_law_128 : decode cL_law 128 = .ok (.ireturn, 1) := by decide +kernel
theorem dL_law_129 : decode cL_law 129 = .ok (.aload_n 1, 1) := by decide +kernel
theorem dL_law_130 : decode cL_law 130 = .ok (.aload_n 0, 1) := by decide +kernel
theorem dL_law_131 : decode cL_law 131 = .ok (.iload_n 3, 1) := by decide +kernel
theorem dL_law_132 : decode cL_law 132 = .ok (.iconst 1, 1) := by decide +kernel
theorem dL_law_133 : decode cL_law 133 = .ok (.iadd, 1) := by decide +kernel
theorem dL_law_134 : decode cL_law 134 = .ok (.iaload, 1) := by decide +kernel
theorem dL_law_135 : decode cL_law 135 = .ok (.invokevirtual 18, 3) := by decide +kernel
theorem dL_law_138 : decode cL_law 138 = .ok (.aload_n 2, 1) := by decide +kernel
theorem dL_law_139 : decode cL_law 139 = .ok (.aload_n 0, 1) := by decide +kernel
theorem dL_law_140 : decode cL_law 140 = .ok (.iload_n 3, 1) := by decide +kernel
theorem dL_law_141 : decode cL_law 141 = .ok (.iconst 1, 1) := by decide +kernel
theorem dL_law_142 : decode cL_law 142 = .ok (.iadd, 1) := by decide +kernel
theorem dL_law_143 : decode cL_law 143 = .ok (.iaload, 1) := by decide +kernel
theorem dL_law_144 : decode cL_law 144 = .ok (.invokevirtual 22, 3) := by decide +kernel
theorem dL_law_147 : decode cL_law 147 = .ok (.if_icmp .eq 539, 3) := by decide +kernel
theorem dL_law_150 : decode cL_law 150 = .ok (.iconst 0, 1) := by decide +kernel
theorem dL_law_151 : decode cL_law 151 = .ok (.ireturn, 1) := by decide +kernel
theorem dL_law_152 : decode cL_law 152 = .ok (.aload_n 1, 1) := by decide +kernel
theorem dL_law_153 : decode cL_law 153 = .ok (.aload_n 0, 1) := by decide +kernel
theorem dL_law_154 : decode cL_law 154 = .ok (.iload_n 3, 1) := by decide +kernel
theorem dL_law_155 : decode cL_law 155 = .ok (.iconst 1, 1) := by decide +kernel
theorem dL_law_156 : decode cL_law 156 = .ok (.iadd, 1) := by decide +kernel
theorem dL_law_157 : decode cL_law 157 = .ok (.iaload, 1) := by decide +kernel
theorem dL_law_158 : decode cL_law 158 = .ok (.invokevirtual 23, 3) := by decide +kernel
theorem dL_law_161 : decode cL_law 161 = .ok (.aload_n 2, 1) := by decide +kernel
theorem dL_law_162 : decode cL_law 162 = .ok (.aload_n 0, 1) := by decide +kernel
theorem dL_law_163 : decode cL_law 163 = .ok (.iload_n 3, 1) := by decide +kernel
theorem dL_law_164 : decode cL_law 164 = .ok (.iconst 1, 1) := by decide +kernel
theorem dL_law_165 : decode cL_law 165 = .ok (.iadd, 1) := by decide +kernel
theorem dL_law_166 : decode cL_law 166 = .ok (.iaload, 1) := by decide +kernel
theorem dL_law_167 : decode cL_law 167 = .ok (.invokevirtual 26, 3) := by decide +kernel
theorem dL_law_170 : decode cL_law 170 = .ok (.if_icmp .eq 516, 3) := by decide +kernel
theorem dL_law_173 : decode cL_law 173 = .ok (.iconst 0, 1) := by decide +kernel
theorem dL_law_174 : decode cL_law 174 = .ok (.ireturn, 1) := by decide +kernel
theorem dL_law_175 : decode cL_law 175 = .ok (.aload_n 1, 1) := by decide +kernel
theorem dL_law_176 : decode cL_law 176 = .ok (.aload_n 0, 1) := by decide +kernel
theorem dL_law_177 : decode cL_law 177 = .ok (.iload_n 3, 1) := by decide +kernel
theorem dL_law_178 : decode cL_law 178 = .ok (.iconst 1, 1) := by decide +kernel
theorem dL_law_179 : decode cL_law 179 = .ok (.iadd, 1) := by decide +kernel
theorem dL_law_180 : decode cL_law 180 = .ok (.iaload, 1) := by decide +kernel
theorem dL_law_181 : decode cL_law 181 = .ok (.aload_n 0, 1) := by decide +kernel
theorem dL_law_182 : decode cL_law 182 = .ok (.iload_n 3, 1) := by decide +kernel
theorem dL_law_183 : decode cL_law 183 = .ok (.iconst 2, 1) := by decide +kernel
theorem dL_law_184 : decode cL_law 184 = .ok (.iadd, 1) := by decide +kernel
theorem dL_law_185 : decode cL_law 185 = .ok (.iaload, 1) := by decide +kernel
theorem dL_law_186 : decode cL_law 186 = .ok (.aload_n 0, 1) := by decide +kernel
theorem dL_law_187 : decode cL_law 187 = .ok (.iload_n 3, 1) := by decide +kernel
theorem dL_law_188 : decode cL_law 188 = .ok (.iconst 3, 1) := by decide +kernel
theorem dL_law_189 : decode cL_law 189 = .ok (.iadd, 1) := by decide +kernel
theorem dL_law_190 : decode cL_law 190 = .ok (.iaload, 1) := by decide +kernel
theorem dL_law_191 : decode cL_law 191 = .ok (.ifCond .eq 7, 3) := by decide +kernel
theorem dL_law_194 : decode cL_law 194 = .ok (.iconst 1, 1) := by decide +kernel
theorem dL_law_195 : decode cL_law 195 = .ok (.goto 4, 3) := by decide +kernel
theorem dL_law_198 : decode cL_law 198 = .ok (.iconst 0, 1) := by decide +kernel
theorem dL_law_199 : decode cL_law 199 = .ok (.invokevirtual 27, 3) := by decide +kernel
theorem dL_law_202 : decode cL_law 202 = .ok (.aload_n 2, 1) := by decide +kernel
theorem dL_law_203 : decode cL_law 203 = .ok (.aload_n 0, 1) := by decide +kernel
theorem dL_law_204 : decode cL_law 204 = .ok (.iload_n 3, 1) := by decide +kernel
theorem dL_law_205 : decode cL_law 205 = .ok (.iconst 1, 1) := by decide +kernel
theorem dL_law_206 : decode cL_law 206 = .ok (.iadd, 1) := by decide +kernel
theorem dL_law_207 : decode cL_law 207 = .ok (.iaload, 1) := by decide +kernel
theorem dL_law_208 : decode cL_law 208 = .ok (.aload_n 0, 1) := by decide +kernel
theorem dL_law_209 : decode cL_law 209 = .ok (.iload_n 3, 1) := by decide +kernel
theorem dL_law_210 : decode cL_law 210 = .ok (.iconst 2, 1) := by decide +kernel
theorem dL_law_211 : decode cL_law 211 = .ok (.iadd, 1) := by decide +kernel
theorem dL_law_212 : decode cL_law 212 = .ok (.iaload, 1) := by decide +kernel
theorem dL_law_213 : decode cL_law 213 = .ok (.aload_n 0, 1) := by decide +kernel
theorem dL_law_214 : decode cL_law 214 = .ok (.iload_n 3, 1) := by decide +kernel
theorem dL_law_215 : decode cL_law 215 = .ok (.iconst 3, 1) := by decide +kernel
theorem dL_law_216 : decode cL_law 216 = .ok (.iadd, 1) := by decide +kernel
theorem dL_law_217 : decode cL_law 217 = .ok (.iaload, 1) := by decide +kernel
theorem dL_law_218 : decode cL_law 218 = .ok (.ifCond .eq 7, 3) := by decide +kernel
theorem dL_law_221 : decode cL_law 221 = .ok (.iconst 1, 1) := by decide +kernel
theorem dL_law_222 : decode cL_law 222 = .ok (.goto 4, 3) := by decide +kernel
theorem dL_law_225 : decode cL_law 225 = .ok (.iconst 0, 1) := by decide +kernel
theorem dL_law_226 : decode cL_law 226 = .ok (.invokevirtual 31, 3) := by decide +kernel
theorem dL_law_229 : decode cL_law 229 = .ok (.if_icmp .eq 457, 3) := by decide +kernel
theorem dL_law_232 : decode cL_law 232 = .ok (.iconst 0, 1) := by decide +kernel
theorem dL_law_233 : decode cL_law 233 = .ok (.ireturn, 1) := by decide +kernel
theorem dL_law_234 : decode cL_law 234 = .ok (.aload_n 1, 1) := by decide +kernel
theorem dL_law_235 : decode cL_law 235 = .ok (.aload_n 0, 1) := by decide +kernel
theorem dL_law_236 : decode cL_law 236 = .ok (.iload_n 3, 1) := by decide +kernel
theorem dL_law_237 : decode cL_law 237 = .ok (.iconst 1, 1) := by decide +kernel
theorem dL_law_238 : decode cL_law 238 = .ok (.iadd, 1) := by decide +kernel
theorem dL_law_239 : decode cL_law 239 = .ok (.iaload, 1) := by decide +kernel
theorem dL_law_240 : decode cL_law 240 = .ok (.aload_n 0, 1) := by decide +kernel
theorem dL_law_241 : decode cL_law 241 = .ok (.iload_n 3, 1) := by decide +kernel
theorem dL_law_242 : decode cL_law 242 = .ok (.iconst 2, 1) := by decide +kernel
theorem dL_law_243 : decode cL_law 243 = .ok (.iadd, 1) := by decide +kernel
theorem dL_law_244 : decode cL_law 244 = .ok (.iaload, 1) := by decide +kernel
theorem dL_law_245 : decode cL_law 245 = .ok (.aload_n 0, 1) := by decide +kernel
theorem dL_law_246 : decode cL_law 246 = .ok (.iload_n 3, 1) := by decide +kernel
theorem dL_law_247 : decode cL_law 247 = .ok (.iconst 3, 1) := by decide +kernel
theorem dL_law_248 : decode cL_law 248 = .ok (.iadd, 1) := by decide +kernel
theorem dL_law_249 : decode cL_law 249 = .ok (.iaload, 1) := by decide +kernel
theorem dL_law_250 : decode cL_law 250 = .ok (.aload_n 0, 1) := by decide +kernel
theorem dL_law_251 : decode cL_law 251 = .ok (.iload_n 3, 1) := by decide +kernel
theorem dL_law_252 : decode cL_law 252 = .ok (.iconst 4, 1) := by decide +kernel
theorem dL_law_253 : decode cL_law 253 = .ok (.iadd, 1) := by decide +kernel
theorem dL_law_254 : decode cL_law 254 = .ok (.iaload, 1) := by decide +kernel
theorem dL_law_255 : decode cL_law 255 = .ok (.invokevirtual 32, 3) := by decide +kernel
theorem dL_law_258 : decode cL_law 258 = .ok (.aload_n 2, 1) := by decide +kernel
theorem dL_law_259 : decode cL_law 259 = .ok (.aload_n 0, 1) := by decide +kernel
theorem dL_law_260 : decode cL_law 260 = .ok (.iload_n 3, 1) := by decide +kernel
theorem dL_law_261 : decode cL_law 261 = .ok (.iconst 1, 1) := by decide +kernel
theorem dL_law_262 : decode cL_law 262 = .ok (.iadd, 1) := by decide +kernel
theorem dL_law_263 : decode cL_law 263 = .ok (.iaload, 1) := by decide +kernel
theorem dL_law_264 : decode cL_law 264 = .ok (.aload_n 0, 1) := by decide +kernel
theorem dL_law_265 : decode cL_law 265 = .ok (.iload_n 3, 1) := by decide +kernel
theorem dL_law_266 : decode cL_law 266 = .ok (.iconst 2, 1) := by decide +kernel
theorem dL_law_267 : decode cL_law 267 = .ok (.iadd, 1) := by decide +kernel
theorem dL_law_268 : decode cL_law 268 = .ok (.iaload, 1) := by decide +kernel
theorem dL_law_269 : decode cL_law 269 = .ok (.aload_n 0, 1) := by decide +kernel
theorem dL_law_270 : decode cL_law 270 = .ok (.iload_n 3, 1) := by decide +kernel
theorem dL_law_271 : decode cL_law 271 = .ok (.iconst 3, 1) := by decide +kernel
theorem dL_law_272 : decode cL_law 272 = .ok (.iadd, 1) := by decide +kernel
theorem dL_law_273 : decode cL_law 273 = .ok (.iaload, 1) := by decide +kernel
theorem dL_law_274 : decode cL_law 274 = .ok (.aload_n 0, 1) := by decide +kernel
theorem dL_law_275 : decode cL_law 275 = .ok (.iload_n 3, 1) := by decide +kernel
theorem dL_law_276 : decode cL_law 276 = .ok (.iconst 4, 1) := by decide +kernel
theorem dL_law_277 : decode cL_law 277 = .ok (.iadd, 1) := by decide +kernel
theorem dL_law_278 : decode cL_law 278 = .ok (.iaload, 1) := by decide +kernel
theorem dL_law_279 : decode cL_law 279 = .ok (.invokevirtual 36, 3) := by decide +kernel
theorem dL_law_282 : decode cL_law 282 = .ok (.if_icmp .eq 404, 3) := by decide +kernel
theorem dL_law_285 : decode cL_law 285 = .ok (.iconst 0, 1) := by decide +kernel
theorem dL_law_286 : decode cL_law 286 = .ok (.ireturn, 1) := by decide +kernel
theorem dL_law_287 : decode cL_law 287 = .ok (.aload_n 1, 1) := by decide +kernel
theorem dL_law_288 : decode cL_law 288 = .ok (.aload_n 0, 1) := by decide +kernel
theorem dL_law_289 : decode cL_law 289 = .ok (.iload_n 3, 1) := by decide +kernel
theorem dL_law_290 : decode cL_law 290 = .ok (.iconst 1, 1) := by decide +kernel
theorem dL_law_291 : decode cL_law 291 = .ok (.iadd, 1) := by decide +kernel
theorem dL_law_292 : decode cL_law 292 = .ok (.iaload, 1) := by decide +kernel
theorem dL_law_293 : decode cL_law 293 = .ok (.aload_n 0, 1) := by decide +kernel
theorem dL_law_294 : decode cL_law 294 = .ok (.iload_n 3, 1) := by decide +kernel
theorem dL_law_295 : decode cL_law 295 = .ok (.iconst 2, 1) := by decide +kernel
theorem dL_law_296 : decode cL_law 296 = .ok (.iadd, 1) := by decide +kernel
theorem dL_law_297 : decode cL_law 297 = .ok (.iaload, 1) := by decide +kernel
theorem dL_law_298 : decode cL_law 298 = .ok (.invokevirtual 37, 3) := by decide +kernel
theorem dL_law_301 : decode cL_law 301 = .ok (.aload_n 2, 1) := by decide +kernel
theorem dL_law_302 : decode cL_law 302 = .ok (.aload_n 0, 1) := by decide +kernel
theorem dL_law_303 : decode cL_law 303 = .ok (.iload_n 3, 1) := by decide +kernel
theorem dL_law_304 : decode cL_law 304 = .ok (.iconst 1, 1) := by decide +kernel
theorem dL_law_305 : decode cL_law 305 = .ok (.iadd, 1) := by decide +kernel
theorem dL_law_306 : decode cL_law 306 = .ok (.iaload, 1) := by decide +kernel
theorem dL_law_307 : decode cL_law 307 = .ok (.aload_n 0, 1) := by decide +kernel
theorem dL_law_308 : decode cL_law 308 = .ok (.iload_n 3, 1) := by decide +kernel
theorem dL_law_309 : decode cL_law 309 = .ok (.iconst 2, 1) := by decide +kernel
theorem dL_law_310 : decode cL_law 310 = .ok (.iadd, 1) := by decide +kernel
theorem dL_law_311 : decode cL_law 311 = .ok (.iaload, 1) := by decide +kernel
theorem dL_law_312 : decode cL_law 312 = .ok (.invokevirtual 41, 3) := by decide +kernel
theorem dL_law_315 : decode cL_law 315 = .ok (.if_icmp .eq 371, 3) := by decide +kernel
theorem dL_law_318 : decode cL_law 318 = .ok (.iconst 0, 1) := by decide +kernel
theorem dL_law_319 : decode cL_law 319 = .ok (.ireturn, 1) := by decide +kernel
theorem dL_law_320 : decode cL_law 320 = .ok (.aload_n 1, 1) := by decide +kernel
theorem dL_law_321 : decode cL_law 321 = .ok (.aload_n 0, 1) := by decide +kernel
theorem dL_law_322 : decode cL_law 322 = .ok (.iload_n 3, 1) := by decide +kernel
theorem dL_law_323 : decode cL_law 323 = .ok (.iconst 1, 1) := by decide +kernel
theorem dL_law_324 : decode cL_law 324 = .ok (.iadd, 1) := by decide +kernel
theorem dL_law_325 : decode cL_law 325 = .ok (.iaload, 1) := by decide +kernel
theorem dL_law_326 : decode cL_law 326 = .ok (.aload_n 0, 1) := by decide +kernel
theorem dL_law_327 : decode cL_law 327 = .ok (.iload_n 3, 1) := by decide +kernel
theorem dL_law_328 : decode cL_law 328 = .ok (.iconst 2, 1) := by decide +kernel
theorem dL_law_329 : decode cL_law 329 = .ok (.iadd, 1) := by decide +kernel
theorem dL_law_330 : decode cL_law 330 = .ok (.iaload, 1) := by decide +kernel
theorem dL_law_331 : decode cL_law 331 = .ok (.aload_n 0, 1) := by decide +kernel
theorem dL_law_332 : decode cL_law 332 = .ok (.iload_n 3, 1) := by decide +kernel
theorem dL_law_333 : decode cL_law 333 = .ok (.iconst 3, 1) := by decide +kernel
theorem dL_law_334 : decode cL_law 334 = .ok (.iadd, 1) := by decide +kernel
theorem dL_law_335 : decode cL_law 335 = .ok (.iaload, 1) := by decide +kernel
theorem dL_law_336 : decode cL_law 336 = .ok (.ifCond .eq 7, 3) := by decide +kernel
theorem dL_law_339 : decode cL_law 339 = .ok (.iconst 1, 1) := by decide +kernel
theorem dL_law_340 : decode cL_law 340 = .ok (.goto 4, 3) := by decide +kernel
theorem dL_law_343 : decode cL_law 343 = .ok (.iconst 0, 1) := by decide +kernel
theorem dL_law_344 : decode cL_law 344 = .ok (.invokevirtual 42, 3) := by decide +kernel
theorem dL_law_347 : decode cL_law 347 = .ok (.aload_n 2, 1) := by decide +kernel
theorem dL_law_348 : decode cL_law 348 = .ok (.aload_n 0, 1) := by decide +kernel
theorem dL_law_349 : decode cL_law 349 = .ok (.iload_n 3, 1) := by decide +kernel
theorem dL_law_350 : decode cL_law 350 = .ok (.iconst 1, 1) := by decide +kernel
theorem dL_law_351 : decode cL_law 351 = .ok (.iadd, 1) := by decide +kernel
theorem dL_law_352 : decode cL_law 352 = .ok (.iaload, 1) := by decide +kernel
theorem dL_law_353 : decode cL_law 353 = .ok (.aload_n 0, 1) := by decide +kernel
theorem dL_law_354 : decode cL_law 354 = .ok (.iload_n 3, 1) := by decide +kernel
theorem dL_law_355 : decode cL_law 355 = .ok (.iconst 2, 1) := by decide +kernel
theorem dL_law_356 : decode cL_law 356 = .ok (.iadd, 1) := by decide +kernel
theorem dL_law_357 : decode cL_law 357 = .ok (.iaload, 1) := by decide +kernel
theorem dL_law_358 : decode cL_law 358 = .ok (.aload_n 0, 1) := by decide +kernel
theorem dL_law_359 : decode cL_law 359 = .ok (.iload_n 3, 1) := by decide +kernel
theorem dL_law_360 : decode cL_law 360 = .ok (.iconst 3, 1) := by decide +kernel
theorem dL_law_361 : decode cL_law 361 = .ok (.iadd, 1) := by decide +kernel
theorem dL_law_362 : decode cL_law 362 = .ok (.iaload, 1) := by decide +kernel
theorem dL_law_363 : decode cL_law 363 = .ok (.ifCond .eq 7, 3) := by decide +kernel
theorem dL_law_366 : decode cL_law 366 = .ok (.iconst 1, 1) := by decide +kernel
theorem dL_law_367 : decode cL_law 367 = .ok (.goto 4, 3) := by decide +kernel
theorem dL_law_370 : decode cL_law 370 = .ok (.iconst 0, 1) := by decide +kernel
theorem dL_law_371 : decode cL_law 371 = .ok (.invokevirtual 45, 3) := by decide +kernel
theorem dL_law_374 : decode cL_law 374 = .ok (.if_icmp .eq 312, 3) := by decide +kernel
theorem dL_law_377 : decode cL_law 377 = .ok (.iconst 0, 1) := by decide +kernel
theorem dL_law_378 : decode cL_law 378 = .ok (.ireturn, 1) := by decide +kernel
theorem dL_law_379 : decode cL_law 379 = .ok (.aload_n 1, 1) := by decide +kernel
theorem dL_law_380 : decode cL_law 380 = .ok (.aload_n 0, 1) := by decide +kernel
theorem dL_law_381 : decode cL_law 381 = .ok (.iload_n 3, 1) := by decide +kernel
theorem dL_law_382 : decode cL_law 382 = .ok (.iconst 1, 1) := by decide +kernel
theorem dL_law_383 : decode cL_law 383 = .ok (.iadd, 1) := by decide +kernel
theorem dL_law_384 : decode cL_law 384 = .ok (.iaload, 1) := by decide +kernel
theorem dL_law_385 : decode cL_law 385 = .ok (.aload_n 0, 1) := by decide +kernel
theorem dL_law_386 : decode cL_law 386 = .ok (.iload_n 3, 1) := by decide +kernel
theorem dL_law_387 : decode cL_law 387 = .ok (.iconst 2, 1) := by decide +kernel
theorem dL_law_388 : decode cL_law 388 = .ok (.iadd, 1) := by decide +kernel
theorem dL_law_389 : decode cL_law 389 = .ok (.iaload, 1) := by decide +kernel
theorem dL_law_390 : decode cL_law 390 = .ok (.aload_n 0, 1) := by decide +kernel
theorem dL_law_391 : decode cL_law 391 = .ok (.iload_n 3, 1) := by decide +kernel
theorem dL_law_392 : decode cL_law 392 = .ok (.iconst 3, 1) := by decide +kernel
theorem dL_law_393 : decode cL_law 393 = .ok (.iadd, 1) := by decide +kernel
theorem dL_law_394 : decode cL_law 394 = .ok (.iaload, 1) := by decide +kernel
theorem dL_law_395 : decode cL_law 395 = .ok (.invokevirtual 46, 3) := by decide +kernel
theorem dL_law_398 : decode cL_law 398 = .ok (.aload_n 2, 1) := by decide +kernel
theorem dL_law_399 : decode cL_law 399 = .ok (.aload_n 0, 1) := by decide +kernel
theorem dL_law_400 : decode cL_law 400 = .ok (.iload_n 3, 1) := by decide +kernel
theorem dL_law_401 : decode cL_law 401 = .ok (.iconst 1, 1) := by decide +kernel
theorem dL_law_402 : decode cL_law 402 = .ok (.iadd, 1) := by decide +kernel
theorem dL_law_403 : decode cL_law 403 = .ok (.iaload, 1) := by decide +kernel
theorem dL_law_404 : decode cL_law 404 = .ok (.aload_n 0, 1) := by decide +kernel
theorem dL_law_405 : decode cL_law 405 = .ok (.iload_n 3, 1) := by decide +kernel
theorem dL_law_406 : decode cL_law 406 = .ok (.iconst 2, 1) := by decide +kernel
theorem dL_law_407 : decode cL_law 407 = .ok (.iadd, 1) := by decide +kernel
theorem dL_law_408 : decode cL_law 408 = .ok (.iaload, 1) := by decide +kernel
theorem dL_law_409 : decode cL_law 409 = .ok (.aload_n 0, 1) := by decide +kernel
theorem dL_law_410 : decode cL_law 410 = .ok (.iload_n 3, 1) := by decide +kernel
theorem dL_law_411 : decode cL_law 411 = .ok (.iconst 3, 1) := by decide +kernel
theorem dL_law_412 : decode cL_law 412 = .ok (.iadd, 1) := by decide +kernel
theorem dL_law_413 : decode cL_law 413 = .ok (.iaload, 1) := by decide +kernel
theorem dL_law_414 : decode cL_law 414 = .ok (.invokevirtual 50, 3) := by decide +kernel
theorem dL_law_417 : decode cL_law 417 = .ok (.if_icmp .eq 269, 3) := by decide +kernel
theorem dL_law_420 : decode cL_law 420 = .ok (.iconst 0, 1) := by decide +kernel
theorem dL_law_421 : decode cL_law 421 = .ok (.ireturn, 1) := by decide +kernel
theorem dL_law_422 : decode cL_law 422 = .ok (.aload_n 1, 1) := by decide +kernel
theorem dL_law_423 : decode cL_law 423 = .ok (.aload_n 0, 1) := by decide +kernel
theorem dL_law_424 : decode cL_law 424 = .ok (.iload_n 3, 1) := by decide +kernel
theorem dL_law_425 : decode cL_law 425 = .ok (.iconst 1, 1) := by decide +kernel
theorem dL_law_426 : decode cL_law 426 = .ok (.iadd, 1) := by decide +kernel
theorem dL_law_427 : decode cL_law 427 = .ok (.iaload, 1) := by decide +kernel
theorem dL_law_428 : decode cL_law 428 = .ok (.aload_n 0, 1) := by decide +kernel
theorem dL_law_429 : decode cL_law 429 = .ok (.iload_n 3, 1) := by decide +kernel
theorem dL_law_430 : decode cL_law 430 = .ok (.iconst 2, 1) := by decide +kernel
theorem dL_law_431 : decode cL_law 431 = .ok (.iadd, 1) := by decide +kernel
theorem dL_law_432 : decode cL_law 432 = .ok (.iaload, 1) := by decide +kernel
theorem dL_law_433 : decode cL_law 433 = .ok (.invokevirtual 51, 3) := by decide +kernel
theorem dL_law_436 : decode cL_law 436 = .ok (.aload_n 2, 1) := by decide +kernel
theorem dL_law_437 : decode cL_law 437 = .ok (.aload_n 0, 1) := by decide +kernel
theorem dL_law_438 : decode cL_law 438 = .ok (.iload_n 3, 1) := by decide +kernel
theorem dL_law_439 : decode cL_law 439 = .ok (.iconst 1, 1) := by decide +kernel
theorem dL_law_440 : decode cL_law 440 = .ok (.iadd, 1) := by decide +kernel
theorem dL_law_441 : decode cL_law 441 = .ok (.iaload, 1) := by decide +kernel
theorem dL_law_442 : decode cL_law 442 = .ok (.aload_n 0, 1) := by decide +kernel
theorem dL_law_443 : decode cL_law 443 = .ok (.iload_n 3, 1) := by decide +kernel
theorem dL_law_444 : decode cL_law 444 = .ok (.iconst 2, 1) := by decide +kernel
theorem dL_law_445 : decode cL_law 445 = .ok (.iadd, 1) := by decide +kernel
theorem dL_law_446 : decode cL_law 446 = .ok (.iaload, 1) := by decide +kernel
theorem dL_law_447 : decode cL_law 447 = .ok (.invokevirtual 55, 3) := by decide +kernel
theorem dL_law_450 : decode cL_law 450 = .ok (.lcmp, 1) := by decide +kernel
theorem dL_law_451 : decode cL_law 451 = .ok (.ifCond .eq 235, 3) := by decide +kernel
theorem dL_law_454 : decode cL_law 454 = .ok (.iconst 0, 1) := by decide +kernel
theorem dL_law_455 : decode cL_law 455 = .ok (.ireturn, 1) := by decide +kernel
theorem dL_law_456 : decode cL_law 456 = .ok (.aload_n 1, 1) := by decide +kernel
theorem dL_law_457 : decode cL_law 457 = .ok (.invokevirtual 56, 3) := by decide +kernel
theorem dL_law_460 : decode cL_law 460 = .ok (.aload_n 2, 1) := by decide +kernel
theorem dL_law_461 : decode cL_law 461 = .ok (.invokevirtual 59, 3) := by decide +kernel
theorem dL_law_464 : decode cL_law 464 = .ok (.if_icmp .eq 222, 3) := by decide +kernel
theorem dL_law_467 : decode cL_law 467 = .ok (.iconst 0, 1) := by decide +kernel
theorem dL_law_468 : decode cL_law 468 = .ok (.ireturn, 1) := by decide +kernel
theorem dL_law_469 : decode cL_law 469 = .ok (.aload_n 1, 1) := by decide +kernel
theorem dL_law_470 : decode cL_law 470 = .ok (.aload_n 0, 1) := by decide +kernel
theorem dL_law_471 : decode cL_law 471 = .ok (.iload_n 3, 1) := by decide +kernel
theorem dL_law_472 : decode cL_law 472 = .ok (.iconst 1, 1) := by decide +kernel
theorem dL_law_473 : decode cL_law 473 = .ok (.iadd, 1) := by decide +kernel
theorem dL_law_474 : decode cL_law 474 = .ok (.iaload, 1) := by decide +kernel
theorem dL_law_475 : decode cL_law 475 = .ok (.invokevirtual 60, 3) := by decide +kernel
theorem dL_law_478 : decode cL_law 478 = .ok (.aload_n 2, 1) := by decide +kernel
theorem dL_law_479 : decode cL_law 479 = .ok (.aload_n 0, 1) := by decide +kernel
theorem dL_law_480 : decode cL_law 480 = .ok (.iload_n 3, 1) := by decide +kernel
theorem dL_law_481 : decode cL_law 481 = .ok (.iconst 1, 1) := by decide +kernel
theorem dL_law_482 : decode cL_law 482 = .ok (.iadd, 1) := by decide +kernel
theorem dL_law_483 : decode cL_law 483 = .ok (.iaload, 1) := by decide +kernel
theorem dL_law_484 : decode cL_law 484 = .ok (.invokevirtual 63, 3) := by decide +kernel
theorem dL_law_487 : decode cL_law 487 = .ok (.if_icmp .eq 199, 3) := by decide +kernel
theorem dL_law_490 : decode cL_law 490 = .ok (.iconst 0, 1) := by decide +kernel
theorem dL_law_491 : decode cL_law 491 = .ok (.ireturn, 1) := by decide +kernel
theorem dL_law_492 : decode cL_law 492 = .ok (.aload_n 1, 1) := by decide +kernel
theorem dL_law_493 : decode cL_law 493 = .ok (.aload_n 0, 1) := by decide +kernel
theorem dL_law_494 : decode cL_law 494 = .ok (.iload_n 3, 1) := by decide +kernel
theorem dL_law_495 : decode cL_law 495 = .ok (.iconst 1, 1) := by decide +kernel
theorem dL_law_496 : decode cL_law 496 = .ok (.iadd, 1) := by decide +kernel
theorem dL_law_497 : decode cL_law 497 = .ok (.iaload, 1) := by decide +kernel
theorem dL_law_498 : decode cL_law 498 = .ok (.invokevirtual 64, 3) := by decide +kernel
theorem dL_law_501 : decode cL_law 501 = .ok (.aload_n 2, 1) := by decide +kernel
theorem dL_law_502 : decode cL_law 502 = .ok (.aload_n 0, 1) := by decide +kernel
theorem dL_law_503 : decode cL_law 503 = .ok (.iload_n 3, 1) := by decide +kernel
theorem dL_law_504 : decode cL_law 504 = .ok (.iconst 1, 1) := by decide +kernel
theorem dL_law_505 : decode cL_law 505 = .ok (.iadd, 1) := by decide +kernel
theorem dL_law_506 : decode cL_law 506 = .ok (.iaload, 1) := by decide +kernel
theorem dL_law_507 : decode cL_law 507 = .ok (.invokevirtual 67, 3) := by decide +kernel
theorem dL_law_510 : decode cL_law 510 = .ok (.if_icmp .eq 176, 3) := by decide +kernel
theorem dL_law_513 : decode cL_law 513 = .ok (.iconst 0, 1) := by decide +kernel
theorem dL_law_514 : decode cL_law 514 = .ok (.ireturn, 1) := by decide +kernel
theorem dL_law_515 : decode cL_law 515 = .ok (.aload_n 1, 1) := by decide +kernel
theorem dL_law_516 : decode cL_law 516 = .ok (.aload_n 0, 1) := by decide +kernel
theorem dL_law_517 : decode cL_law 517 = .ok (.iload_n 3, 1) := by decide +kernel
theorem dL_law_518 : decode cL_law 518 = .ok (.iconst 1, 1) := by decide +kernel
theorem dL_law_519 : decode cL_law 519 = .ok (.iadd, 1) := by decide +kernel
theorem dL_law_520 : decode cL_law 520 = .ok (.iaload, 1) := by decide +kernel
theorem dL_law_521 : decode cL_law 521 = .ok (.aload_n 0, 1) := by decide +kernel
theorem dL_law_522 : decode cL_law 522 = .ok (.iload_n 3, 1) := by decide +kernel
theorem dL_law_523 : decode cL_law 523 = .ok (.iconst 2, 1) := by decide +kernel
theorem dL_law_524 : decode cL_law 524 = .ok (.iadd, 1) := by decide +kernel
theorem dL_law_525 : decode cL_law 525 = .ok (.iaload, 1) := by decide +kernel
theorem dL_law_526 : decode cL_law 526 = .ok (.invokevirtual 68, 3) := by decide +kernel
theorem dL_law_529 : decode cL_law 529 = .ok (.aload_n 2, 1) := by decide +kernel
theorem dL_law_530 : decode cL_law 530 = .ok (.aload_n 0, 1) := by decide +kernel
theorem dL_law_531 : decode cL_law 531 = .ok (.iload_n 3, 1) := by decide +kernel
theorem dL_law_532 : decode cL_law 532 = .ok (.iconst 1, 1) := by decide +kernel
theorem dL_law_533 : decode cL_law 533 = .ok (.iadd, 1) := by decide +kernel
theorem dL_law_534 : decode cL_law 534 = .ok (.iaload, 1) := by decide +kernel
theorem dL_law_535 : decode cL_law 535 = .ok (.aload_n 0, 1) := by decide +kernel
theorem dL_law_536 : decode cL_law 536 = .ok (.iload_n 3, 1) := by decide +kernel
theorem dL_law_537 : decode cL_law 537 = .ok (.iconst 2, 1) := by decide +kernel
theorem dL_law_538 : decode cL_law 538 = .ok (.iadd, 1) := by decide +kernel
theorem dL_law_539 : decode cL_law 539 = .ok (.iaload, 1) := by decide +kernel
theorem dL_law_540 : decode cL_law 540 = .ok (.invokevirtual 71, 3) := by decide +kernel
theorem dL_law_543 : decode cL_law 543 = .ok (.if_icmp .eq 143, 3) := by decide +kernel
theorem dL_law_546 : decode cL_law 546 = .ok (.iconst 0, 1) := by decide +kernel
theorem dL_law_547 : decode cL_law 547 = .ok (.ireturn, 1) := by decide +kernel
theorem dL_law_548 : decode cL_law 548 = .ok (.aload_n 1, 1) := by decide +kernel
theorem dL_law_549 : decode cL_law 549 = .ok (.aload_n 0, 1) := by decide +kernel
theorem dL_law_550 : decode cL_law 550 = .ok (.iload_n 3, 1) := by decide +kernel
theorem dL_law_551 : decode cL_law 551 = .ok (.iconst 1, 1) := by decide +kernel
theorem dL_law_552 : decode cL_law 552 = .ok (.iadd, 1) := by decide +kernel
theorem dL_law_553 : decode cL_law 553 = .ok (.iaload, 1) := by decide +kernel
theorem dL_law_554 : decode cL_law 554 = .ok (.aload_n 0, 1) := by decide +kernel
theorem dL_law_555 : decode cL_law 555 = .ok (.iload_n 3, 1) := by decide +kernel
theorem dL_law_556 : decode cL_law 556 = .ok (.iconst 2, 1) := by decide +kernel
theorem dL_law_557 : decode cL_law 557 = .ok (.iadd, 1) := by decide +kernel
theorem dL_law_558 : decode cL_law 558 = .ok (.iaload, 1) := by decide +kernel
theorem dL_law_559 : decode cL_law 559 = .ok (.invokevirtual 72, 3) := by decide +kernel
theorem dL_law_562 : decode cL_law 562 = .ok (.aload_n 2, 1) := by decide +kernel
theorem dL_law_563 : decode cL_law 563 = .ok (.aload_n 0, 1) := by decide +kernel
theorem dL_law_564 : decode cL_law 564 = .ok (.iload_n 3, 1) := by decide +kernel
theorem dL_law_565 : decode cL_law 565 = .ok (.iconst 1, 1) := by decide +kernel
theorem dL_law_566 : decode cL_law 566 = .ok (.iadd, 1) := by decide +kernel
theorem dL_law_567 : decode cL_law 567 = .ok (.iaload, 1) := by decide +kernel
theorem dL_law_568 : decode cL_law 568 = .ok (.aload_n 0, 1) := by decide +kernel
theorem dL_law_569 : decode cL_law 569 = .ok (.iload_n 3, 1) := by decide +kernel
theorem dL_law_570 : decode cL_law 570 = .ok (.iconst 2, 1) := by decide +kernel
theorem dL_law_571 : decode cL_law 571 = .ok (.iadd, 1) := by decide +kernel
theorem dL_law_572 : decode cL_law 572 = .ok (.iaload, 1) := by decide +kernel
theorem dL_law_573 : decode cL_law 573 = .ok (.invokevirtual 75, 3) := by decide +kernel
theorem dL_law_576 : decode cL_law 576 = .ok (.if_icmp .eq 110, 3) := by decide +kernel
theorem dL_law_579 : decode cL_law 579 = .ok (.iconst 0, 1) := by decide +kernel
theorem dL_law_580 : decode cL_law 580 = .ok (.ireturn, 1) := by decide +kernel
theorem dL_law_581 : decode cL_law 581 = .ok (.aload_n 1, 1) := by decide +kernel
theorem dL_law_582 : decode cL_law 582 = .ok (.aload_n 0, 1) := by decide +kernel
theorem dL_law_583 : decode cL_law 583 = .ok (.iload_n 3, 1) := by decide +kernel
theorem dL_law_584 : decode cL_law 584 = .ok (.iconst 1, 1) := by decide +kernel
theorem dL_law_585 : decode cL_law 585 = .ok (.iadd, 1) := by decide +kernel
theorem dL_law_586 : decode cL_law 586 = .ok (.iaload, 1) := by decide +kernel
theorem dL_law_587 : decode cL_law 587 = .ok (.aload_n 0, 1) := by decide +kernel
theorem dL_law_588 : decode cL_law 588 = .ok (.iload_n 3, 1) := by decide +kernel
theorem dL_law_589 : decode cL_law 589 = .ok (.iconst 2, 1) := by decide +kernel
theorem dL_law_590 : decode cL_law 590 = .ok (.iadd, 1) := by decide +kernel
theorem dL_law_591 : decode cL_law 591 = .ok (.iaload, 1) := by decide +kernel
theorem dL_law_592 : decode cL_law 592 = .ok (.aload_n 0, 1) := by decide +kernel
theorem dL_law_593 : decode cL_law 593 = .ok (.iload_n 3, 1) := by decide +kernel
theorem dL_law_594 : decode cL_law 594 = .ok (.iconst 3, 1) := by decide +kernel
theorem dL_law_595 : decode cL_law 595 = .ok (.iadd, 1) := by decide +kernel
theorem dL_law_596 : decode cL_law 596 = .ok (.iaload, 1) := by decide +kernel
theorem dL_law_597 : decode cL_law 597 = .ok (.aload_n 0, 1) := by decide +kernel
theorem dL_law_598 : decode cL_law 598 = .ok (.iload_n 3, 1) := by decide +kernel
theorem dL_law_599 : decode cL_law 599 = .ok (.iconst 4, 1) := by decide +kernel
theorem dL_law_600 : decode cL_law 600 = .ok (.iadd, 1) := by decide +kernel
theorem dL_law_601 : decode cL_law 601 = .ok (.iaload, 1) := by decide +kernel
theorem dL_law_602 : decode cL_law 602 = .ok (.invokevirtual 76, 3) := by decide +kernel
theorem dL_law_605 : decode cL_law 605 = .ok (.aload_n 2, 1) := by decide +kernel
theorem dL_law_606 : decode cL_law 606 = .ok (.aload_n 0, 1) := by decide +kernel
theorem dL_law_607 : decode cL_law 607 = .ok (.iload_n 3, 1) := by decide +kernel
theorem dL_law_608 : decode cL_law 608 = .ok (.iconst 1, 1) := by decide +kernel
theorem dL_law_609 : decode cL_law 609 = .ok (.iadd, 1) := by decide +kernel
theorem dL_law_610 : decode cL_law 610 = .ok (.iaload, 1) := by decide +kernel
theorem dL_law_611 : decode cL_law 611 = .ok (.aload_n 0, 1) := by decide +kernel
theorem dL_law_612 : decode cL_law 612 = .ok (.iload_n 3, 1) := by decide +kernel
theorem dL_law_613 : decode cL_law 613 = .ok (.iconst 2, 1) := by decide +kernel
theorem dL_law_614 : decode cL_law 614 = .ok (.iadd, 1) := by decide +kernel
theorem dL_law_615 : decode cL_law 615 = .ok (.iaload, 1) := by decide +kernel
theorem dL_law_616 : decode cL_law 616 = .ok (.aload_n 0, 1) := by decide +kernel
theorem dL_law_617 : decode cL_law 617 = .ok (.iload_n 3, 1) := by decide +kernel
theorem dL_law_618 : decode cL_law 618 = .ok (.iconst 3, 1) := by decide +kernel
theorem dL_law_619 : decode cL_law 619 = .ok (.iadd, 1) := by decide +kernel
theorem dL_law_620 : decode cL_law 620 = .ok (.iaload, 1) := by decide +kernel
theorem dL_law_621 : decode cL_law 621 = .ok (.aload_n 0, 1) := by decide +kernel
theorem dL_law_622 : decode cL_law 622 = .ok (.iload_n 3, 1) := by decide +kernel
theorem dL_law_623 : decode cL_law 623 = .ok (.iconst 4, 1) := by decide +kernel
theorem dL_law_624 : decode cL_law 624 = .ok (.iadd, 1) := by decide +kernel
theorem dL_law_625 : decode cL_law 625 = .ok (.iaload, 1) := by decide +kernel
theorem dL_law_626 : decode cL_law 626 = .ok (.invokevirtual 79, 3) := by decide +kernel
theorem dL_law_629 : decode cL_law 629 = .ok (.if_icmp .eq 57, 3) := by decide +kernel
theorem dL_law_632 : decode cL_law 632 = .ok (.iconst 0, 1) := by decide +kernel
theorem dL_law_633 : decode cL_law 633 = .ok (.ireturn, 1) := by decide +kernel
theorem dL_law_634 : decode cL_law 634 = .ok (.aload_n 1, 1) := by decide +kernel
theorem dL_law_635 : decode cL_law 635 = .ok (.invokevirtual 80, 3) := by decide +kernel
theorem dL_law_638 : decode cL_law 638 = .ok (.aload_n 2, 1) := by decide +kernel
theorem dL_law_639 : decode cL_law 639 = .ok (.invokevirtual 83, 3) := by decide +kernel
theorem dL_law_642 : decode cL_law 642 = .ok (.if_icmp .eq 44, 3) := by decide +kernel
theorem dL_law_645 : decode cL_law 645 = .ok (.iconst 0, 1) := by decide +kernel
theorem dL_law_646 : decode cL_law 646 = .ok (.ireturn, 1) := by decide +kernel
theorem dL_law_647 : decode cL_law 647 = .ok (.aload_n 1, 1) := by decide +kernel
theorem dL_law_648 : decode cL_law 648 = .ok (.aload_n 0, 1) := by decide +kernel
theorem dL_law_649 : decode cL_law 649 = .ok (.iload_n 3, 1) := by decide +kernel
theorem dL_law_650 : decode cL_law 650 = .ok (.iconst 1, 1) := by decide +kernel
theorem dL_law_651 : decode cL_law 651 = .ok (.iadd, 1) := by decide +kernel
theorem dL_law_652 : decode cL_law 652 = .ok (.iaload, 1) := by decide +kernel
theorem dL_law_653 : decode cL_law 653 = .ok (.ifCond .eq 7, 3) := by decide +kernel
theorem dL_law_656 : decode cL_law 656 = .ok (.iconst 1, 1) := by decide +kernel
theorem dL_law_657 : decode cL_law 657 = .ok (.goto 4, 3) := by decide +kernel
theorem dL_law_660 : decode cL_law 660 = .ok (.iconst 0, 1) := by decide +kernel
theorem dL_law_661 : decode cL_law 661 = .ok (.invokevirtual 84, 3) := by decide +kernel
theorem dL_law_664 : decode cL_law 664 = .ok (.aload_n 2, 1) := by decide +kernel
theorem dL_law_665 : decode cL_law 665 = .ok (.aload_n 0, 1) := by decide +kernel
theorem dL_law_666 : decode cL_law 666 = .ok (.iload_n 3, 1) := by decide +kernel
theorem dL_law_667 : decode cL_law 667 = .ok (.iconst 1, 1) := by decide +kernel
theorem dL_law_668 : decode cL_law 668 = .ok (.iadd, 1) := by decide +kernel
theorem dL_law_669 : decode cL_law 669 = .ok (.iaload, 1) := by decide +kernel
theorem dL_law_670 : decode cL_law 670 = .ok (.ifCond .eq 7, 3) := by decide +kernel
theorem dL_law_673 : decode cL_law 673 = .ok (.iconst 1, 1) := by decide +kernel
theorem dL_law_674 : decode cL_law 674 = .ok (.goto 4, 3) := by decide +kernel
theorem dL_law_677 : decode cL_law 677 = .ok (.iconst 0, 1) := by decide +kernel
theorem dL_law_678 : decode cL_law 678 = .ok (.invokevirtual 88, 3) := by decide +kernel
theorem dL_law_681 : decode cL_law 681 = .ok (.if_icmp .eq 5, 3) := by decide +kernel
theorem dL_law_684 : decode cL_law 684 = .ok (.iconst 0, 1) := by decide +kernel
theorem dL_law_685 : decode cL_law 685 = .ok (.ireturn, 1) := by decide +kernel
theorem dL_law_686 : decode cL_law 686 = .ok (.iinc 3 5, 3) := by decide +kernel
theorem dL_law_689 : decode cL_law 689 = .ok (.goto (-671), 3) := by decide +kernel
theorem dL_law_692 : decode cL_law 692 = .ok (.iconst 1, 1) := by decide +kernel
theorem dL_law_693 : decode cL_law 693 = .ok (.ireturn, 1) := by decide +kernel
def RX3 : String := "ForkedPagesModel"
def TX3 : u_T := fun k => match k with
  | 0 => ("ForkedPagesModel", "runs", "[Z", false)
  | 1 => ("ForkedPagesModel", "frame", "[I", false)
  | 2 => ("ForkedPagesModel", "common", "[Z", false)
  | 3 => ("ForkedPagesModel", "writable", "[Z", false)
  | 4 => ("ForkedPagesModel", "marked", "[Z", false)
  | 5 => ("ForkedPagesModel", "words", "[I", false)
  | 6 => ("ForkedPagesModel", "faultCount", "I", false)
  | _ => ("ForkedPagesModel", "copyCount", "I", false)
def tyX3 : Nat → FieldType := fun k => match k with
  | 0 => .array .boolean
  | 1 => .array .int
  | 2 => .array .boolean
  | 3 => .array .boolean
  | 4 => .array .boolean
  | 5 => .array .int
  | 6 => .int
  | _ => .int
theorem nmX3 : ∀ a, a < 8 → ∀ b, b < 8 → a ≠ b → (TX3 a).2.1 ≠ (TX3 b).2.1 := by decide +kernel
theorem tyX3_ok : ∀ k, k < 8 → parseFieldDescriptor (TX3 k).2.2.1 = some (tyX3 k) := by decide +kernel
abbrev cX3_init : ByteArray := prog_5_method_1_code
def yX3_init : MethodName := ⟨RX3, "<init>", "()V"⟩
abbrev cX3_free : ByteArray := prog_5_method_7_code
def yX3_free : MethodName := ⟨RX3, "free", "()I"⟩
abbrev cX3_leads : ByteArray := prog_5_method_6_code
def yX3_leads : MethodName := ⟨RX3, "leads", "(I)I"⟩
abbrev cX3_tablesOf : ByteArray := prog_5_method_5_code
def yX3_tablesOf : MethodName := ⟨RX3, "tablesOf", "(I)I"⟩
abbrev cX3_some : ByteArray := prog_5_method_4_code
def yX3_some : MethodName := ⟨RX3, "some", "(III)Z"⟩
abbrev cX3_spawn : ByteArray := prog_5_method_11_code
def yX3_spawn : MethodName := ⟨RX3, "spawn", "()I"⟩
abbrev cX3_idle : ByteArray := prog_5_method_10_code
def yX3_idle : MethodName := ⟨RX3, "idle", "()I"⟩
abbrev cX3_fork : ByteArray := prog_5_method_12_code
def yX3_fork : MethodName := ⟨RX3, "fork", "(I)I"⟩
abbrev cX3_away : ByteArray := prog_5_method_2_code
def yX3_away : MethodName := ⟨RX3, "away", "(I)Z"⟩
abbrev cX3_exit : ByteArray := prog_5_method_14_code
def yX3_exit : MethodName := ⟨RX3, "exit", "(I)I"⟩
abbrev cX3_clear : ByteArray := prog_5_method_13_code
def yX3_clear : MethodName := ⟨RX3, "clear", "(I)V"⟩
abbrev cX3_map : ByteArray := prog_5_method_15_code
def yX3_map : MethodName := ⟨RX3, "map", "(IIZ)I"⟩
abbrev cX3_isPage : ByteArray := prog_5_method_3_code
def yX3_isPage : MethodName := ⟨RX3, "isPage", "(I)Z"⟩
abbrev cX3_more : ByteArray := prog_5_method_9_code
def yX3_more : MethodName := ⟨RX3, "more", "(II)I"⟩
abbrev cX3_unused : ByteArray := prog_5_method_8_code
def yX3_unused : MethodName := ⟨RX3, "unused", "()I"⟩
abbrev cX3_attach : ByteArray := prog_5_method_16_code
def yX3_attach : MethodName := ⟨RX3, "attach", "(IIII)I"⟩
abbrev cX3_unmap : ByteArray := prog_5_method_18_code
def yX3_unmap : MethodName := ⟨RX3, "unmap", "(II)I"⟩
abbrev cX3_bar : ByteArray := prog_5_method_17_code
def yX3_bar : MethodName := ⟨RX3, "bar", "(II)I"⟩
abbrev cX3_protect : ByteArray := prog_5_method_19_code
def yX3_protect : MethodName := ⟨RX3, "protect", "(IIZ)I"⟩
abbrev cX3_write : ByteArray := prog_5_method_21_code
def yX3_write : MethodName := ⟨RX3, "write", "(III)I"⟩
abbrev cX3_pageOf : ByteArray := prog_5_method_20_code
def yX3_pageOf : MethodName := ⟨RX3, "pageOf", "(I)I"⟩
abbrev cX3_read : ByteArray := prog_5_method_22_code
def yX3_read : MethodName := ⟨RX3, "read", "(II)J"⟩
abbrev cX3_tables : ByteArray := prog_5_method_23_code
def yX3_tables : MethodName := ⟨RX3, "tables", "(I)I"⟩
abbrev cX3_pages : ByteArray := prog_5_method_24_code
def yX3_pages : MethodName := ⟨RX3, "pages", "(I)I"⟩
abbrev cX3_count : ByteArray := prog_5_method_25_code
def yX3_count : MethodName := ⟨RX3, "count", "(II)I"⟩
abbrev cX3_mapping : ByteArray := prog_5_method_26_code
def yX3_mapping : MethodName := ⟨RX3, "mapping", "(II)I"⟩
abbrev cX3_twin : ByteArray := prog_5_method_27_code
def yX3_twin : MethodName := ⟨RX3, "twin", "(IIII)I"⟩
abbrev cX3_running : ByteArray := prog_5_method_28_code
def yX3_running : MethodName := ⟨RX3, "running", "()I"⟩
abbrev cX3_faults : ByteArray := prog_5_method_29_code
def yX3_faults : MethodName := ⟨RX3, "faults", "(Z)I"⟩
theorem dX3_init_0 : decode cX3_init 0 = .ok (.aload_n 0, 1) := by decide +kernel
theorem dX3_init_1 : decode cX3_init 1 = .ok (.invokespecial 1, 3) := by decide +kernel
theorem dX3_init_4 : decode cX3_init 4 = .ok (.aload_n 0, 1) := by decide +kernel
theorem dX3_init_5 : decode cX3_init 5 = .ok (.iconst 5, 1) := by decide +kernel
theorem dX3_init_6 : decode cX3_init 6 = .ok (.newarray .boolean, 2) := by decide +kernel
theorem dX3_init_8 : decode cX3_init 8 = .ok (.putfield 7, 3) := by decide +kernel
theorem dX3_init_11 : decode cX3_init 11 = .ok (.aload_n 0, 1) := by decide +kernel
theorem dX3_init_12 : decode cX3_init 12 = .ok (.sipush 320, 3) := by decide +kernel
theorem dX3_init_15 : decode cX3_init 15 = .ok (.newarray .int, 2) := by decide +kernel
theorem dX3_init_17 : decode cX3_init 17 = .ok (.putfield 13, 3) := by decide +kernel
theorem dX3_init_20 : decode cX3_init 20 = .ok (.aload_n 0, 1) := by decide +kernel
theorem dX3_init_21 : decode cX3_init 21 = .ok (.sipush 320, 3) := by decide +kernel
theorem dX3_init_24 : decode cX3_init 24 = .ok (.newarray .boolean, 2) := by decide +kernel
theorem dX3_init_26 : decode cX3_init 26 = .ok (.putfield 17, 3) := by decide +kernel
theorem dX3_init_29 : decode cX3_init 29 = .ok (.aload_n 0, 1) := by decide +kernel
theorem dX3_init_30 : decode cX3_init 30 = .ok (.sipush 320, 3) := by decide +kernel
theorem dX3_init_33 : decode cX3_init 33 = .ok (.newarray .boolean, 2) := by decide +kernel
theorem dX3_init_35 : decode cX3_init 35 = .ok (.putfield 20, 3) := by decide +kernel
theorem dX3_init_38 : decode cX3_init 38 = .ok (.aload_n 0, 1) := by decide +kernel
theorem dX3_init_39 : decode cX3_init 39 = .ok (.sipush 320, 3) := by decide +kernel
theorem dX3_init_42 : decode cX3_init 42 = .ok (.newarray .boolean, 2) := by decide +kernel
theorem dX3_init_44 : decode cX3_init 44 = .ok (.putfield 23, 3) := by decide +kernel
theorem dX3_init_47 : decode cX3_init 47 = .ok (.aload_n 0, 1) := by decide +kernel
theorem dX3_init_48 : decode cX3_init 48 = .ok (.bipush 96, 2) := by decide +kernel
theorem dX3_init_50 : decode cX3_init 50 = .ok (.newarray .int, 2) := by decide +kernel
theorem dX3_init_52 : decode cX3_init 52 = .ok (.putfield 26, 3) := by decide +kernel
theorem dX3_init_55 : decode cX3_init 55 = .ok (.return_, 1) := by decide +kernel
theorem dX3_away_0 : decode cX3_away 0 = .ok (.iload_n 1, 1) := by decide +kernel
theorem dX3_away_1 : decode cX3_away 1 = .ok (.ifCond .lt 17, 3) := by decide +kernel
theorem dX3_away_4 : decode cX3_away 4 = .ok (.iload_n 1, 1) := by decide +kernel
theorem dX3_away_5 : decode cX3_away 5 = .ok (.iconst 4, 1) := by decide +kernel
theorem dX3_away_6 : decode cX3_away 6 = .ok (.if_icmp .gt 12, 3) := by decide +kernel
theorem dX3_away_9 : decode cX3_away 9 = .ok (.aload_n 0, 1) := by decide +kernel
theorem dX3_away_10 : decode cX3_away 10 = .ok (.getfield 7, 3) := by decide +kernel
theorem dX3_away_13 : decode cX3_away 13 = .ok (.iload_n 1, 1) := by decide +kernel
theorem dX3_away_14 : decode cX3_away 14 = .ok (.baload, 1) := by decide +kernel
theorem dX3_away_15 : decode cX3_away 15 = .ok (.ifCond .ne 7, 3) := by decide +kernel
theorem dX3_away_18 : decode cX3_away 18 = .ok (.iconst 1, 1) := by decide +kernel
theorem dX3_away_19 : decode cX3_away 19 = .ok (.goto 4, 3) := by decide +kernel
theorem dX3_away_22 : decode cX3_away 22 = .ok (.iconst 0, 1) := by decide +kernel
theorem dX3_away_23 : decode cX3_away 23 = .ok (.ireturn, 1) := by decide +kernel
theorem dX3_isPage_0 : decode cX3_isPage 0 = .ok (.iload_n 0, 1) := by decide +kernel
theorem dX3_isPage_1 : decode cX3_isPage 1 = .ok (.ifCond .lt 13, 3) := by decide +kernel
theorem dX3_isPage_4 : decode cX3_isPage 4 = .ok (.iload_n 0, 1) := by decide +kernel
theorem dX3_isPage_5 : decode cX3_isPage 5 = .ok (.bipush 63, 2) := by decide +kernel
theorem dX3_isPage_7 : decode cX3_isPage 7 = .ok (.if_icmp .gt 7, 3) := by decide +kernel
theorem dX3_isPage_10 : decode cX3_isPage 10 = .ok (.iconst 1, 1) := by decide +kernel
theorem dX3_isPage_11 : decode cX3_isPage 11 = .ok (.goto 4, 3) := by decide +kernel
theorem dX3_isPage_14 : decode cX3_isPage 14 = .ok (.iconst 0, 1) := by decide +kernel
theorem dX3_isPage_15 : decode cX3_isPage 15 = .ok (.ireturn, 1) := by decide +kernel
theorem dX3_some_0 : decode cX3_some 0 = .ok (.iconst 0, 1) := by decide +kernel
theorem dX3_some_1 : decode cX3_some 1 = .ok (.istore 4, 2) := by decide +kernel
theorem dX3_some_3 : decode cX3_some 3 = .ok (.iconst 0, 1) := by decide +kernel
theorem dX3_some_4 : decode cX3_some 4 = .ok (.istore 5, 2) := by decide +kernel
theorem dX3_some_6 : decode cX3_some 6 = .ok (.iload 5, 2) := by decide +kernel
theorem dX3_some_8 : decode cX3_some 8 = .ok (.iload_n 3, 1) := by decide +kernel
theorem dX3_some_9 : decode cX3_some 9 = .ok (.if_icmp .ge 38, 3) := by decide +kernel
theorem dX3_some_12 : decode cX3_some 12 = .ok (.iload 4, 2) := by decide +kernel
theorem dX3_some_14 : decode cX3_some 14 = .ok (.ifCond .ne 20, 3) := by decide +kernel
theorem dX3_some_17 : decode cX3_some 17 = .ok (.aload_n 0, 1) := by decide +kernel
theorem dX3_some_18 : decode cX3_some 18 = .ok (.getfield 13, 3) := by decide +kernel
theorem dX3_some_21 : decode cX3_some 21 = .ok (.bipush 64, 2) := by decide +kernel
theorem dX3_some_23 : decode cX3_some 23 = .ok (.iload_n 1, 1) := by decide +kernel
theorem dX3_some_24 : decode cX3_some 24 = .ok (.imul, 1) := by decide +kernel
theorem dX3_some_25 : decode cX3_some 25 = .ok (.iload_n 2, 1) := by decide +kernel
theorem dX3_some_26 : decode cX3_some 26 = .ok (.iadd, 1) := by decide +kernel
theorem dX3_some_27 : decode cX3_some 27 = .ok (.iload 5, 2) := by decide +kernel
theorem dX3_some_29 : decode cX3_some 29 = .ok (.iadd, 1) := by decide +kernel
theorem dX3_some_30 : decode cX3_some 30 = .ok (.iaload, 1) := by decide +kernel
theorem dX3_some_31 : decode cX3_some 31 = .ok (.ifCond .le 7, 3) := by decide +kernel
theorem dX3_some_34 : decode cX3_some 34 = .ok (.iconst 1, 1) := by decide +kernel
theorem dX3_some_35 : decode cX3_some 35 = .ok (.goto 4, 3) := by decide +kernel
theorem dX3_some_38 : decode cX3_some 38 = .ok (.iconst 0, 1) := by decide +kernel
theorem dX3_some_39 : decode cX3_some 39 = .ok (.istore 4, 2) := by decide +kernel
theorem dX3_some_41 : decode cX3_some 41 = .ok (.iinc 5 1, 3) := by decide +kernel
theorem dX3_some_44 : decode cX3_some 44 = .ok (.goto (-38), 3) := by decide +kernel
theorem dX3_some_47 : decode cX3_some 47 = .ok (.iload 4, 2) := by decide +kernel
theorem dX3_some_49 : decode cX3_some 49 = .ok (.ireturn, 1) := by decide +kernel
theorem dX3_tablesOf_0 : decode cX3_tablesOf 0 = .ok (.iconst 1, 1) := by decide +kernel
theorem dX3_tablesOf_1 : decode cX3_tablesOf 1 = .ok (.istore_n 2, 1) := by decide +kernel
theorem dX3_tablesOf_2 : decode cX3_tablesOf 2 = .ok (.iconst 0, 1) := by decide +kernel
theorem dX3_tablesOf_3 : decode cX3_tablesOf 3 = .ok (.istore_n 3, 1) := by decide +kernel
theorem dX3_tablesOf_4 : decode cX3_tablesOf 4 = .ok (.iload_n 3, 1) := by decide +kernel
theorem dX3_tablesOf_5 : decode cX3_tablesOf 5 = .ok (.bipush 64, 2) := by decide +kernel
theorem dX3_tablesOf_7 : decode cX3_tablesOf 7 = .ok (.if_icmp .ge 27, 3) := by decide +kernel
theorem dX3_tablesOf_10 : decode cX3_tablesOf 10 = .ok (.aload_n 0, 1) := by decide +kernel
theorem dX3_tablesOf_11 : decode cX3_tablesOf 11 = .ok (.iload_n 1, 1) := by decide +kernel
theorem dX3_tablesOf_12 : decode cX3_tablesOf 12 = .ok (.iload_n 3, 1) := by decide +kernel
theorem dX3_tablesOf_13 : decode cX3_tablesOf 13 = .ok (.iconst 4, 1) := by decide +kernel
theorem dX3_tablesOf_14 : decode cX3_tablesOf 14 = .ok (.invokevirtual 29, 3) := by decide +kernel
theorem dX3_tablesOf_17 : decode cX3_tablesOf 17 = .ok (.ifCond .eq 9, 3) := by decide +kernel
theorem dX3_tablesOf_20 : decode cX3_tablesOf 20 = .ok (.iload_n 2, 1) := by decide +kernel
theorem dX3_tablesOf_21 : decode cX3_tablesOf 21 = .ok (.iconst 1, 1) := by decide +kernel
theorem dX3_tablesOf_22 : decode cX3_tablesOf 22 = .ok (.iadd, 1) := by decide +kernel
theorem dX3_tablesOf_23 : decode cX3_tablesOf 23 = .ok (.goto 4, 3) := by decide +kernel
theorem dX3_tablesOf_26 : decode cX3_tablesOf 26 = .ok (.iload_n 2, 1) := by decide +kernel
theorem dX3_tablesOf_27 : decode cX3_tablesOf 27 = .ok (.istore_n 2, 1) := by decide +kernel
theorem dX3_tablesOf_28 : decode cX3_tablesOf 28 = .ok (.iinc 3 4, 3) := by decide +kernel
theorem dX3_tablesOf_31 : decode cX3_tablesOf 31 = .ok (.goto (-27), 3) := by decide +kernel
theorem dX3_tablesOf_34 : decode cX3_tablesOf 34 = .ok (.iconst 0, 1) := by decide +kernel
theorem dX3_tablesOf_35 : decode cX3_tablesOf 35 = .ok (.istore_n 3, 1) := by decide +kernel
theorem dX3_tablesOf_36 : decode cX3_tablesOf 36 = .ok (.iload_n 3, 1) := by decide +kernel
theorem dX3_tablesOf_37 : decode cX3_tablesOf 37 = .ok (.bipush 64, 2) := by decide +kernel
theorem dX3_tablesOf_39 : decode cX3_tablesOf 39 = .ok (.if_icmp .ge 28, 3) := by decide +kernel
theorem dX3_tablesOf_42 : decode cX3_tablesOf 42 = .ok (.aload_n 0, 1) := by decide +kernel
theorem dX3_tablesOf_43 : decode cX3_tablesOf 43 = .ok (.iload_n 1, 1) := by decide +kernel
theorem dX3_tablesOf_44 : decode cX3_tablesOf 44 = .ok (.iload_n 3, 1) := by decide +kernel
theorem dX3_tablesOf_45 : decode cX3_tablesOf 45 = .ok (.bipush 16, 2) := by decide +kernel
theorem dX3_tablesOf_47 : decode cX3_tablesOf 47 = .ok (.invokevirtual 29, 3) := by decide +kernel
theorem dX3_tablesOf_50 : decode cX3_tablesOf 50 = .ok (.ifCond .eq 9, 3) := by decide +kernel
theorem dX3_tablesOf_53 : decode cX3_tablesOf 53 = .ok (.iload_n 2, 1) := by decide +kernel
theorem dX3_tablesOf_54 : decode cX3_tablesOf 54 = .ok (.iconst 1, 1) := by decide +kernel
theorem dX3_tablesOf_55 : decode cX3_tablesOf 55 = .ok (.iadd, 1) := by decide +kernel
theorem dX3_tablesOf_56 : decode cX3_tablesOf 56 = .ok (.goto 4, 3) := by decide +kernel
theorem dX3_tablesOf_59 : decode cX3_tablesOf 59 = .ok (.iload_n 2, 1) := by decide +kernel
theorem dX3_tablesOf_60 : decode cX3_tablesOf 60 = .ok (.istore_n 2, 1) := by decide +kernel
theorem dX3_tablesOf_61 : decode cX3_tablesOf 61 = .ok (.iinc 3 16, 3) := by decide +kernel
theorem dX3_tablesOf_64 : decode cX3_tablesOf 64 = .ok (.goto (-28), 3) := by decide +kernel
theorem dX3_tablesOf_67 : decode cX3_tablesOf 67 = .ok (.iload_n 2, 1) := by decide +kernel
theorem dX3_tablesOf_68 : decode cX3_tablesOf 68 = .ok (.ireturn, 1) := by decide +kernel
theorem dX3_leads_0 : decode cX3_leads 0 = .ok (.iconst 0, 1) := by decide +kernel
theorem dX3_leads_1 : decode cX3_leads 1 = .ok (.istore_n 2, 1) := by decide +kernel
theorem dX3_leads_2 : decode cX3_leads 2 = .ok (.iconst 0, 1) := by decide +kernel
theorem dX3_leads_3 : decode cX3_leads 3 = .ok (.istore_n 3, 1) := by decide +kernel
theorem dX3_leads_4 : decode cX3_leads 4 = .ok (.iload_n 3, 1) := by decide +kernel
theorem dX3_leads_5 : decode cX3_leads 5 = .ok (.sipush 320, 3) := by decide +kernel
theorem dX3_leads_8 : decode cX3_leads 8 = .ok (.if_icmp .ge 29, 3) := by decide +kernel
theorem dX3_leads_11 : decode cX3_leads 11 = .ok (.aload_n 0, 1) := by decide +kernel
theorem dX3_leads_12 : decode cX3_leads 12 = .ok (.getfield 13, 3) := by decide +kernel
theorem dX3_leads_15 : decode cX3_leads 15 = .ok (.iload_n 3, 1) := by decide +kernel
theorem dX3_leads_16 : decode cX3_leads 16 = .ok (.iaload, 1) := by decide +kernel
theorem dX3_leads_17 : decode cX3_leads 17 = .ok (.iload_n 1, 1) := by decide +kernel
theorem dX3_leads_18 : decode cX3_leads 18 = .ok (.iconst 1, 1) := by decide +kernel
theorem dX3_leads_19 : decode cX3_leads 19 = .ok (.iadd, 1) := by decide +kernel
theorem dX3_leads_20 : decode cX3_leads 20 = .ok (.if_icmp .ne 9, 3) := by decide +kernel
theorem dX3_leads_23 : decode cX3_leads 23 = .ok (.iload_n 2, 1) := by decide +kernel
theorem dX3_leads_24 : decode cX3_leads 24 = .ok (.iconst 1, 1) := by decide +kernel
theorem dX3_leads_25 : decode cX3_leads 25 = .ok (.iadd, 1) := by decide +kernel
theorem dX3_leads_26 : decode cX3_leads 26 = .ok (.goto 4, 3) := by decide +kernel
theorem dX3_leads_29 : decode cX3_leads 29 = .ok (.iload_n 2, 1) := by decide +kernel
theorem dX3_leads_30 : decode cX3_leads 30 = .ok (.istore_n 2, 1) := by decide +kernel
theorem dX3_leads_31 : decode cX3_leads 31 = .ok (.iinc 3 1, 3) := by decide +kernel
theorem dX3_leads_34 : decode cX3_leads 34 = .ok (.goto (-30), 3) := by decide +kernel
theorem dX3_leads_37 : decode cX3_leads 37 = .ok (.iload_n 2, 1) := by decide +kernel
theorem dX3_leads_38 : decode cX3_leads 38 = .ok (.ireturn, 1) := by decide +kernel
theorem dX3_free_0 : decode cX3_free 0 = .ok (.bipush 24, 2) := by decide +kernel
theorem dX3_free_2 : decode cX3_free 2 = .ok (.istore_n 1, 1) := by decide +kernel
theorem dX3_free_3 : decode cX3_free 3 = .ok (.iconst 0, 1) := by decide +kernel
theorem dX3_free_4 : decode cX3_free 4 = .ok (.istore_n 2, 1) := by decide +kernel
theorem dX3_free_5 : decode cX3_free 5 = .ok (.iload_n 2, 1) := by decide +kernel
theorem dX3_free_6 : decode cX3_free 6 = .ok (.bipush 24, 2) := by decide +kernel
theorem dX3_free_8 : decode cX3_free 8 = .ok (.if_icmp .ge 25, 3) := by decide +kernel
theorem dX3_free_11 : decode cX3_free 11 = .ok (.aload_n 0, 1) := by decide +kernel
theorem dX3_free_12 : decode cX3_free 12 = .ok (.iload_n 2, 1) := by decide +kernel
theorem dX3_free_13 : decode cX3_free 13 = .ok (.invokevirtual 33, 3) := by decide +kernel
theorem dX3_free_16 : decode cX3_free 16 = .ok (.ifCond .le 9, 3) := by decide +kernel
theorem dX3_free_19 : decode cX3_free 19 = .ok (.iload_n 1, 1) := by decide +kernel
theorem dX3_free_20 : decode cX3_free 20 = .ok (.iconst 1, 1) := by decide +kernel
theorem dX3_free_21 : decode cX3_free 21 = .ok (.isub, 1) := by decide +kernel
theorem dX3_free_22 : decode cX3_free 22 = .ok (.goto 4, 3) := by decide +kernel
theorem dX3_free_25 : decode cX3_free 25 = .ok (.iload_n 1, 1) := by decide +kernel
theorem dX3_free_26 : decode cX3_free 26 = .ok (.istore_n 1, 1) := by decide +kernel
theorem dX3_free_27 : decode cX3_free 27 = .ok (.iinc 2 1, 3) := by decide +kernel
theorem dX3_free_30 : decode cX3_free 30 = .ok (.goto (-25), 3) := by decide +kernel
theorem dX3_free_33 : decode cX3_free 33 = .ok (.iconst 0, 1) := by decide +kernel
theorem dX3_free_34 : decode cX3_free 34 = .ok (.istore_n 2, 1) := by decide +kernel
theorem dX3_free_35 : decode cX3_free 35 = .ok (.iload_n 2, 1) := by decide +kernel
theorem dX3_free_36 : decode cX3_free 36 = .ok (.iconst 5, 1) := by decide +kernel
theorem dX3_free_37 : decode cX3_free 37 = .ok (.if_icmp .ge 30, 3) := by decide +kernel
theorem dX3_free_40 : decode cX3_free 40 = .ok (.aload_n 0, 1) := by decide +kernel
theorem dX3_free_41 : decode cX3_free 41 = .ok (.getfield 7, 3) := by decide +kernel
theorem dX3_free_44 : decode cX3_free 44 = .ok (.iload_n 2, 1) := by decide +kernel
theorem dX3_free_45 : decode cX3_free 45 = .ok (.baload, 1) := by decide +kernel
theorem dX3_free_46 : decode cX3_free 46 = .ok (.ifCond .eq 13, 3) := by decide +kernel
theorem dX3_free_49 : decode cX3_free 49 = .ok (.iload_n 1, 1) := by decide +kernel
theorem dX3_free_50 : decode cX3_free 50 = .ok (.aload_n 0, 1) := by decide +kernel
theorem dX3_free_51 : decode cX3_free 51 = .ok (.iload_n 2, 1) := by decide +kernel
theorem dX3_free_52 : decode cX3_free 52 = .ok (.invokevirtual 37, 3) := by decide +kernel
theorem dX3_free_55 : decode cX3_free 55 = .ok (.isub, 1) := by decide +kernel
theorem dX3_free_56 : decode cX3_free 56 = .ok (.goto 4, 3) := by decide +kernel
theorem dX3_free_59 : decode cX3_free 59 = .ok (.iload_n 1, 1) := by decide +kernel
theorem dX3_free_60 : decode cX3_free 60 = .ok (.istore_n 1, 1) := by decide +kernel
theorem dX3_free_61 : decode cX3_free 61 = .ok (.iinc 2 1, 3) := by decide +kernel
theorem dX3_free_64 : decode cX3_free 64 = .ok (.goto (-29), 3) := by decide +kernel
theorem dX3_free_67 : decode cX3_free 67 = .ok (.iload_n 1, 1) := by decide +kernel
theorem dX3_free_68 : decode cX3_free 68 = .ok (.ireturn, 1) := by decide +kernel
theorem dX3_unused_0 : decode cX3_unused 0 = .ok (.iconst 0, 1) := by decide +kernel
theorem dX3_unused_1 : decode cX3_unused 1 = .ok (.istore_n 1, 1) := by decide +kernel
theorem dX3_unused_2 : decode cX3_unused 2 = .ok (.iload_n 1, 1) := by decide +kernel
theorem dX3_unused_3 : decode cX3_unused 3 = .ok (.bipush 23, 2) := by decide +kernel
theorem dX3_unused_5 : decode cX3_unused 5 = .ok (.if_icmp .ge 17, 3) := by decide +kernel
theorem dX3_unused_8 : decode cX3_unused 8 = .ok (.aload_n 0, 1) := by decide +kernel
theorem dX3_unused_9 : decode cX3_unused 9 = .ok (.iload_n 1, 1) := by decide +kernel
theorem dX3_unused_10 : decode cX3_unused 10 = .ok (.invokevirtual 33, 3) := by decide +kernel
theorem dX3_unused_13 : decode cX3_unused 13 = .ok (.ifCond .le 9, 3) := by decide +kernel
theorem dX3_unused_16 : decode cX3_unused 16 = .ok (.iinc 1 1, 3) := by decide +kernel
theorem dX3_unused_19 : decode cX3_unused 19 = .ok (.goto (-17), 3) := by decide +kernel
theorem dX3_unused_22 : decode cX3_unused 22 = .ok (.iload_n 1, 1) := by decide +kernel
theorem dX3_unused_23 : decode cX3_unused 23 = .ok (.ireturn, 1) := by decide +kernel
theorem dX3_more_0 : decode cX3_more 0 = .ok (.aload_n 0, 1) := by decide +kernel
theorem dX3_more_1 : decode cX3_more 1 = .ok (.iload_n 1, 1) := by decide +kernel
theorem dX3_more_2 : decode cX3_more 2 = .ok (.iload_n 2, 1) := by decide +kernel
theorem dX3_more_3 : decode cX3_more 3 = .ok (.iconst 4, 1) := by decide +kernel
theorem dX3_more_4 : decode cX3_more 4 = .ok (.idiv, 1) := by decide +kernel
theorem dX3_more_5 : decode cX3_more 5 = .ok (.iconst 4, 1) := by decide +kernel
theorem dX3_more_6 : decode cX3_more 6 = .ok (.imul, 1) := by decide +kernel
theorem dX3_more_7 : decode cX3_more 7 = .ok (.iconst 4, 1) := by decide +kernel
theorem dX3_more_8 : decode cX3_more 8 = .ok (.invokevirtual 29, 3) := by decide +kernel
theorem dX3_more_11 : decode cX3_more 11 = .ok (.ifCond .eq 7, 3) := by decide +kernel
theorem dX3_more_14 : decode cX3_more 14 = .ok (.iconst 0, 1) := by decide +kernel
theorem dX3_more_15 : decode cX3_more 15 = .ok (.goto 4, 3) := by decide +kernel
theorem dX3_more_18 : decode cX3_more 18 = .ok (.iconst 1, 1) := by decide +kernel
theorem dX3_more_19 : decode cX3_more 19 = .ok (.aload_n 0, 1) := by decide +kernel
theorem dX3_more_20 : decode cX3_more 20 = .ok (.iload_n 1, 1) := by decide +kernel
theorem dX3_more_21 : decode cX3_more 21 = .ok (.iload_n 2, 1) := by decide +kernel
theorem dX3_more_22 : decode cX3_more 22 = .ok (.bipush 16, 2) := by decide +kernel
theorem dX3_more_24 : decode cX3_more 24 = .ok (.idiv, 1) := by decide +kernel
theorem dX3_more_25 : decode cX3_more 25 = .ok (.bipush 16, 2) := by decide +kernel
theorem dX3_more_27 : decode cX3_more 27 = .ok (.imul, 1) := by decide +kernel
theorem dX3_more_28 : decode cX3_more 28 = .ok (.bipush 16, 2) := by decide +kernel
theorem dX3_more_30 : decode cX3_more 30 = .ok (.invokevirtual 29, 3) := by decide +kernel
theorem dX3_more_33 : decode cX3_more 33 = .ok (.ifCond .eq 7, 3) := by decide +kernel
theorem dX3_more_36 : decode cX3_more 36 = .ok (.iconst 0, 1) := by decide +kernel
theorem dX3_more_37 : decode cX3_more 37 = .ok (.goto 4, 3) := by decide +kernel
theorem dX3_more_40 : decode cX3_more 40 = .ok (.iconst 1, 1) := by decide +kernel
theorem dX3_more_41 : decode cX3_more 41 = .ok (.iadd, 1) := by decide +kernel
theorem dX3_more_42 : decode cX3_more 42 = .ok (.ireturn, 1) := by decide +kernel
theorem dX3_idle_0 : decode cX3_idle 0 = .ok (.iconst 0, 1) := by decide +kernel
theorem dX3_idle_1 : decode cX3_idle 1 = .ok (.istore_n 1, 1) := by decide +kernel
theorem dX3_idle_2 : decode cX3_idle 2 = .ok (.iload_n 1, 1) := by decide +kernel
theorem dX3_idle_3 : decode cX3_idle 3 = .ok (.iconst 5, 1) := by decide +kernel
theorem dX3_idle_4 : decode cX3_idle 4 = .ok (.if_icmp .ge 18, 3) := by decide +kernel
theorem dX3_idle_7 : decode cX3_idle 7 = .ok (.aload_n 0, 1) := by decide +kernel
theorem dX3_idle_8 : decode cX3_idle 8 = .ok (.getfield 7, 3) := by decide +kernel
theorem dX3_idle_11 : decode cX3_idle 11 = .ok (.iload_n 1, 1) := by decide +kernel
theorem dX3_idle_12 : decode cX3_idle 12 = .ok (.baload, 1) := by decide +kernel
theorem dX3_idle_13 : decode cX3_idle 13 = .ok (.ifCond .eq 9, 3) := by decide +kernel
theorem dX3_idle_16 : decode cX3_idle 16 = .ok (.iinc 1 1, 3) := by decide +kernel
theorem dX3_idle_19 : decode cX3_idle 19 = .ok (.goto (-17), 3) := by decide +kernel
theorem dX3_idle_22 : decode cX3_idle 22 = .ok (.iload_n 1, 1) := by decide +kernel
theorem dX3_idle_23 : decode cX3_idle 23 = .ok (.ireturn, 1) := by decide +kernel
theorem dX3_spawn_0 : decode cX3_spawn 0 = .ok (.aload_n 0, 1) := by decide +kernel
theorem dX3_spawn_1 : decode cX3_spawn 1 = .ok (.invokevirtual 40, 3) := by decide +kernel
theorem dX3_spawn_4 : decode cX3_spawn 4 = .ok (.istore_n 1, 1) := by decide +kernel
theorem dX3_spawn_5 : decode cX3_spawn 5 = .ok (.iload_n 1, 1) := by decide +kernel
theorem dX3_spawn_6 : decode cX3_spawn 6 = .ok (.iconst 5, 1) := by decide +kernel
theorem dX3_spawn_7 : decode cX3_spawn 7 = .ok (.if_icmp .ne 6, 3) := by decide +kernel
theorem dX3_spawn_10 : decode cX3_spawn 10 = .ok (.bipush (-7), 2) := by decide +kernel
theorem dX3_spawn_12 : decode cX3_spawn 12 = .ok (.ireturn, 1) := by decide +kernel
theorem dX3_spawn_13 : decode cX3_spawn 13 = .ok (.aload_n 0, 1) := by decide +kernel
theorem dX3_spawn_14 : decode cX3_spawn 14 = .ok (.invokevirtual 44, 3) := by decide +kernel
theorem dX3_spawn_17 : decode cX3_spawn 17 = .ok (.iconst 1, 1) := by decide +kernel
theorem dX3_spawn_18 : decode cX3_spawn 18 = .ok (.if_icmp .ge 6, 3) := by decide +kernel
theorem dX3_spawn_21 : decode cX3_spawn 21 = .ok (.bipush (-8), 2) := by decide +kernel
theorem dX3_spawn_23 : decode cX3_spawn 23 = .ok (.ireturn, 1) := by decide +kernel
theorem dX3_spawn_24 : decode cX3_spawn 24 = .ok (.aload_n 0, 1) := by decide +kernel
theorem dX3_spawn_25 : decode cX3_spawn 25 = .ok (.getfield 7, 3) := by decide +kernel
theorem dX3_spawn_28 : decode cX3_spawn 28 = .ok (.iload_n 1, 1) := by decide +kernel
theorem dX3_spawn_29 : decode cX3_spawn 29 = .ok (.iconst 1, 1) := by decide +kernel
theorem dX3_spawn_30 : decode cX3_spawn 30 = .ok (.bastore, 1) := by decide +kernel
theorem dX3_spawn_31 : decode cX3_spawn 31 = .ok (.iload_n 1, 1) := by decide +kernel
theorem dX3_spawn_32 : decode cX3_spawn 32 = .ok (.ireturn, 1) := by decide +kernel
theorem dX3_fork_0 : decode cX3_fork 0 = .ok (.aload_n 0, 1) := by decide +kernel
theorem dX3_fork_1 : decode cX3_fork 1 = .ok (.iload_n 1, 1) := by decide +kernel
theorem dX3_fork_2 : decode cX3_fork 2 = .ok (.invokevirtual 47, 3) := by decide +kernel
theorem dX3_fork_5 : decode cX3_fork 5 = .ok (.ifCond .eq 5, 3) := by decide +kernel
theorem dX3_fork_8 : decode cX3_fork 8 = .ok (.iconst (-1), 1) := by decide +kernel
theorem dX3_fork_9 : decode cX3_fork 9 = .ok (.ireturn, 1) := by decide +kernel
theorem dX3_fork_10 : decode cX3_fork 10 = .ok (.aload_n 0, 1) := by decide +kernel
theorem dX3_fork_11 : decode cX3_fork 11 = .ok (.invokevirtual 40, 3) := by decide +kernel
theorem dX3_fork_14 : decode cX3_fork 14 = .ok (.istore_n 2, 1) := by decide +kernel
theorem dX3_fork_15 : decode cX3_fork 15 = .ok (.iload_n 2, 1) := by decide +kernel
theorem dX3_fork_16 : decode cX3_fork 16 = .ok (.iconst 5, 1) := by decide +kernel
theorem dX3_fork_17 : decode cX3_fork 17 = .ok (.if_icmp .ne 6, 3) := by decide +kernel
theorem dX3_fork_20 : decode cX3_fork 20 = .ok (.bipush (-7), 2) := by decide +kernel
theorem dX3_fork_22 : decode cX3_fork 22 = .ok (.ireturn, 1) := by decide +kernel
theorem dX3_fork_23 : decode cX3_fork 23 = .ok (.aload_n 0, 1) := by decide +kernel
theorem dX3_fork_24 : decode cX3_fork 24 = .ok (.invokevirtual 44, 3) := by decide +kernel
theorem dX3_fork_27 : decode cX3_fork 27 = .ok (.aload_n 0, 1) := by decide +kernel
theorem dX3_fork_28 : decode cX3_fork 28 = .ok (.iload_n 1, 1) := by decide +kernel
theorem dX3_fork_29 : decode cX3_fork 29 = .ok (.invokevirtual 37, 3) := by decide +kernel
theorem dX3_fork_32 : decode cX3_fork 32 = .ok (.if_icmp .ge 6, 3) := by decide +kernel
theorem dX3_fork_35 : decode cX3_fork 35 = .ok (.bipush (-8), 2) := by decide +kernel
theorem dX3_fork_37 : decode cX3_fork 37 = .ok (.ireturn, 1) := by decide +kernel
theorem dX3_fork_38 : decode cX3_fork 38 = .ok (.aload_n 0, 1) := by decide +kernel
theorem dX3_fork_39 : decode cX3_fork 39 = .ok (.getfield 7, 3) := by decide +kernel
theorem dX3_fork_42 : decode cX3_fork 42 = .ok (.iload_n 2, 1) := by decide +kernel
theorem dX3_fork_43 : decode cX3_fork 43 = .ok (.iconst 1, 1) := by decide +kernel
theorem dX3_fork_44 : decode cX3_fork 44 = .ok (.bastore, 1) := by decide +kernel
theorem dX3_fork_45 : decode cX3_fork 45 = .ok (.iconst 0, 1) := by decide +kernel
theorem dX3_fork_46 : decode cX3_fork 46 = .ok (.istore_n 3, 1) := by decide +kernel
theorem dX3_fork_47 : decode cX3_fork 47 = .ok (.iload_n 3, 1) := by decide +kernel
theorem dX3_fork_48 : decode cX3_fork 48 = .ok (.bipush 64, 2) := by decide +kernel
theorem dX3_fork_50 : decode cX3_fork 50 = .ok (.if_icmp .ge 123, 3) := by decide +kernel
theorem dX3_fork_53 : decode cX3_fork 53 = .ok (.bipush 64, 2) := by decide +kernel
theorem dX3_fork_55 : decode cX3_fork 55 = .ok (.iload_n 1, 1) := by decide +kernel
theorem dX3_fork_56 : decode cX3_fork 56 = .ok (.imul, 1) := by decide +kernel
theorem dX3_fork_57 : decode cX3_fork 57 = .ok (.iload_n 3, 1) := by decide +kernel
theorem dX3_fork_58 : decode cX3_fork 58 = .ok (.iadd, 1) := by decide +kernel
theorem dX3_fork_59 : decode cX3_fork 59 = .ok (.istore 4, 2) := by decide +kernel
theorem dX3_fork_61 : decode cX3_fork 61 = .ok (.bipush 64, 2) := by decide +kernel
theorem dX3_fork_63 : decode cX3_fork 63 = .ok (.iload_n 2, 1) := by decide +kernel
theorem dX3_fork_64 : decode cX3_fork 64 = .ok (.imul, 1) := by decide +kernel
theorem dX3_fork_65 : decode cX3_fork 65 = .ok (.iload_n 3, 1) := by decide +kernel
theorem dX3_fork_66 : decode cX3_fork 66 = .ok (.iadd, 1) := by decide +kernel
theorem dX3_fork_67 : decode cX3_fork 67 = .ok (.istore 5, 2) := by decide +kernel
theorem dX3_fork_69 : decode cX3_fork 69 = .ok (.aload_n 0, 1) := by decide +kernel
theorem dX3_fork_70 : decode cX3_fork 70 = .ok (.getfield 23, 3) := by decide +kernel
theorem dX3_fork_73 : decode cX3_fork 73 = .ok (.iload 4, 2) := by decide +kernel
theorem dX3_fork_75 : decode cX3_fork 75 = .ok (.aload_n 0, 1) := by decide +kernel
theorem dX3_fork_76 : decode cX3_fork 76 = .ok (.getfield 23, 3) := by decide +kernel
theorem dX3_fork_79 : decode cX3_fork 79 = .ok (.iload 4, 2) := by decide +kernel
theorem dX3_fork_81 : decode cX3_fork 81 = .ok (.baload, 1) := by decide +kernel
theorem dX3_fork_82 : decode cX3_fork 82 = .ok (.ifCond .ne 23, 3) := by decide +kernel
theorem dX3_fork_85 : decode cX3_fork 85 = .ok (.aload_n 0, 1) := by decide +kernel
theorem dX3_fork_86 : decode cX3_fork 86 = .ok (.getfield 13, 3) := by decide +kernel
theorem dX3_fork_89 : decode cX3_fork 89 = .ok (.iload 4, 2) := by decide +kernel
theorem dX3_fork_91 : decode cX3_fork 91 = .ok (.iaload, 1) := by decide +kernel
theorem dX3_fork_92 : decode cX3_fork 92 = .ok (.ifCond .le 17, 3) := by decide +kernel
theorem dX3_fork_95 : decode cX3_fork 95 = .ok (.aload_n 0, 1) := by decide +kernel
theorem dX3_fork_96 : decode cX3_fork 96 = .ok (.getfield 17, 3) := by decide +kernel
theorem dX3_fork_99 : decode cX3_fork 99 = .ok (.iload 4, 2) := by decide +kernel
theorem dX3_fork_101 : decode cX3_fork 101 = .ok (.baload, 1) := by decide +kernel
theorem dX3_fork_102 : decode cX3_fork 102 = .ok (.ifCond .ne 7, 3) := by decide +kernel
theorem dX3_fork_105 : decode cX3_fork 105 = .ok (.iconst 1, 1) := by decide +kernel
theorem dX3_fork_106 : decode cX3_fork 106 = .ok (.goto 4, 3) := by decide +kernel
theorem dX3_fork_109 : decode cX3_fork 109 = .ok (.iconst 0, 1) := by decide +kernel
theorem dX3_fork_110 : decode cX3_fork 110 = .ok (.bastore, 1) := by decide +kernel
theorem dX3_fork_111 : decode cX3_fork 111 = .ok (.aload_n 0, 1) := by decide +kernel
theorem dX3_fork_112 : decode cX3_fork 112 = .ok (.getfield 13, 3) := by decide +kernel
theorem dX3_fork_115 : decode cX3_fork 115 = .ok (.iload 5, 2) := by decide +kernel
theorem dX3_fork_117 : decode cX3_fork 117 = .ok (.aload_n 0, 1) := by decide +kernel
theorem dX3_fork_118 : decode cX3_fork 118 = .ok (.getfield 13, 3) := by decide +kernel
theorem dX3_fork_121 : decode cX3_fork 121 = .ok (.iload 4, 2) := by decide +kernel
theorem dX3_fork_123 : decode cX3_fork 123 = .ok (.iaload, 1) := by decide +kernel
theorem dX3_fork_124 : decode cX3_fork 124 = .ok (.iastore, 1) := by decide +kernel
theorem dX3_fork_125 : decode cX3_fork 125 = .ok (.aload_n 0, 1) := by decide +kernel
theorem dX3_fork_126 : decode cX3_fork 126 = .ok (.getfield 17, 3) := by decide +kernel
theorem dX3_fork_129 : decode cX3_fork 129 = .ok (.iload 5, 2) := by decide +kernel
theorem dX3_fork_131 : decode cX3_fork 131 = .ok (.aload_n 0, 1) := by decide +kernel
theorem dX3_fork_132 : decode cX3_fork 132 = .ok (.getfield 17, 3) := by decide +kernel
theorem dX3_fork_135 : decode cX3_fork 135 = .ok (.iload 4, 2) := by decide +kernel
theorem dX3_fork_137 : decode cX3_fork 137 = .ok (.baload, 1) := by decide +kernel
theorem dX3_fork_138 : decode cX3_fork 138 = .ok (.bastore, 1) := by decide +kernel
theorem dX3_fork_139 : decode cX3_fork 139 = .ok (.aload_n 0, 1) := by decide +kernel
theorem dX3_fork_140 : decode cX3_fork 140 = .ok (.getfield 20, 3) := by decide +kernel
theorem dX3_fork_143 : decode cX3_fork 143 = .ok (.iload 5, 2) := by decide +kernel
theorem dX3_fork_145 : decode cX3_fork 145 = .ok (.aload_n 0, 1) := by decide +kernel
theorem dX3_fork_146 : decode cX3_fork 146 = .ok (.getfield 20, 3) := by decide +kernel
theorem dX3_fork_149 : decode cX3_fork 149 = .ok (.iload 4, 2) := by decide +kernel
theorem dX3_fork_151 : decode cX3_fork 151 = .ok (.baload, 1) := by decide +kernel
theorem dX3_fork_152 : decode cX3_fork 152 = .ok (.bastore, 1) := by decide +kernel
theorem dX3_fork_153 : decode cX3_fork 153 = .ok (.aload_n 0, 1) := by decide +kernel
theorem dX3_fork_154 : decode cX3_fork 154 = .ok (.getfield 23, 3) := by decide +kernel
theorem dX3_fork_157 : decode cX3_fork 157 = .ok (.iload 5, 2) := by decide +kernel
theorem dX3_fork_159 : decode cX3_fork 159 = .ok (.aload_n 0, 1) := by decide +kernel
theorem dX3_fork_160 : decode cX3_fork 160 = .ok (.getfield 23, 3) := by decide +kernel
theorem dX3_fork_163 : decode cX3_fork 163 = .ok (.iload 4, 2) := by decide +kernel
theorem dX3_fork_165 : decode cX3_fork 165 = .ok (.baload, 1) := by decide +kernel
theorem dX3_fork_166 : decode cX3_fork 166 = .ok (.bastore, 1) := by decide +kernel
theorem dX3_fork_167 : decode cX3_fork 167 = .ok (.iinc 3 1, 3) := by decide +kernel
theorem dX3_fork_170 : decode cX3_fork 170 = .ok (.goto (-123), 3) := by decide +kernel
theorem dX3_fork_173 : decode cX3_fork 173 = .ok (.iload_n 2, 1) := by decide +kernel
theorem dX3_fork_174 : decode cX3_fork 174 = .ok (.ireturn, 1) := by decide +kernel
theorem dX3_clear_0 : decode cX3_clear 0 = .ok (.aload_n 0, 1) := by decide +kernel
theorem dX3_clear_1 : decode cX3_clear 1 = .ok (.getfield 13, 3) := by decide +kernel
theorem dX3_clear_4 : decode cX3_clear 4 = .ok (.iload_n 1, 1) := by decide +kernel
theorem dX3_clear_5 : decode cX3_clear 5 = .ok (.iconst 0, 1) := by decide +kernel
theorem dX3_clear_6 : decode cX3_clear 6 = .ok (.iastore, 1) := by decide +kernel
theorem dX3_clear_7 : decode cX3_clear 7 = .ok (.aload_n 0, 1) := by decide +kernel
theorem dX3_clear_8 : decode cX3_clear 8 = .ok (.getfield 17, 3) := by decide +kernel
theorem dX3_clear_11 : decode cX3_clear 11 = .ok (.iload_n 1, 1) := by decide +kernel
theorem dX3_clear_12 : decode cX3_clear 12 = .ok (.iconst 0, 1) := by decide +kernel
theorem dX3_clear_13 : decode cX3_clear 13 = .ok (.bastore, 1) := by decide +kernel
theorem dX3_clear_14 : decode cX3_clear 14 = .ok (.aload_n 0, 1) := by decide +kernel
theorem dX3_clear_15 : decode cX3_clear 15 = .ok (.getfield 20, 3) := by decide +kernel
theorem dX3_clear_18 : decode cX3_clear 18 = .ok (.iload_n 1, 1) := by decide +kernel
theorem dX3_clear_19 : decode cX3_clear 19 = .ok (.iconst 0, 1) := by decide +kernel
theorem dX3_clear_20 : decode cX3_clear 20 = .ok (.bastore, 1) := by decide +kernel
theorem dX3_clear_21 : decode cX3_clear 21 = .ok (.aload_n 0, 1) := by decide +kernel
theorem dX3_clear_22 : decode cX3_clear 22 = .ok (.getfield 23, 3) := by decide +kernel
theorem dX3_clear_25 : decode cX3_clear 25 = .ok (.iload_n 1, 1) := by decide +kernel
theorem dX3_clear_26 : decode cX3_clear 26 = .ok (.iconst 0, 1) := by decide +kernel
theorem dX3_clear_27 : decode cX3_clear 27 = .ok (.bastore, 1) := by decide +kernel
theorem dX3_clear_28 : decode cX3_clear 28 = .ok (.return_, 1) := by decide +kernel
theorem dX3_exit_0 : decode cX3_exit 0 = .ok (.aload_n 0, 1) := by decide +kernel
theorem dX3_exit_1 : decode cX3_exit 1 = .ok (.iload_n 1, 1) := by decide +kernel
theorem dX3_exit_2 : decode cX3_exit 2 = .ok (.invokevirtual 47, 3) := by decide +kernel
theorem dX3_exit_5 : decode cX3_exit 5 = .ok (.ifCond .eq 5, 3) := by decide +kernel
theorem dX3_exit_8 : decode cX3_exit 8 = .ok (.iconst (-1), 1) := by decide +kernel
theorem dX3_exit_9 : decode cX3_exit 9 = .ok (.ireturn, 1) := by decide +kernel
theorem dX3_exit_10 : decode cX3_exit 10 = .ok (.aload_n 0, 1) := by decide +kernel
theorem dX3_exit_11 : decode cX3_exit 11 = .ok (.invokevirtual 44, 3) := by decide +kernel
theorem dX3_exit_14 : decode cX3_exit 14 = .ok (.istore_n 2, 1) := by decide +kernel
theorem dX3_exit_15 : decode cX3_exit 15 = .ok (.iconst 0, 1) := by decide +kernel
theorem dX3_exit_16 : decode cX3_exit 16 = .ok (.istore_n 3, 1) := by decide +kernel
theorem dX3_exit_17 : decode cX3_exit 17 = .ok (.iload_n 3, 1) := by decide +kernel
theorem dX3_exit_18 : decode cX3_exit 18 = .ok (.bipush 64, 2) := by decide +kernel
theorem dX3_exit_20 : decode cX3_exit 20 = .ok (.if_icmp .ge 19, 3) := by decide +kernel
theorem dX3_exit_23 : decode cX3_exit 23 = .ok (.aload_n 0, 1) := by decide +kernel
theorem dX3_exit_24 : decode cX3_exit 24 = .ok (.bipush 64, 2) := by decide +kernel
theorem dX3_exit_26 : decode cX3_exit 26 = .ok (.iload_n 1, 1) := by decide +kernel
theorem dX3_exit_27 : decode cX3_exit 27 = .ok (.imul, 1) := by decide +kernel
theorem dX3_exit_28 : decode cX3_exit 28 = .ok (.iload_n 3, 1) := by decide +kernel
theorem dX3_exit_29 : decode cX3_exit 29 = .ok (.iadd, 1) := by decide +kernel
theorem dX3_exit_30 : decode cX3_exit 30 = .ok (.invokevirtual 51, 3) := by decide +kernel
theorem dX3_exit_33 : decode cX3_exit 33 = .ok (.iinc 3 1, 3) := by decide +kernel
theorem dX3_exit_36 : decode cX3_exit 36 = .ok (.goto (-19), 3) := by decide +kernel
theorem dX3_exit_39 : decode cX3_exit 39 = .ok (.aload_n 0, 1) := by decide +kernel
theorem dX3_exit_40 : decode cX3_exit 40 = .ok (.getfield 7, 3) := by decide +kernel
theorem dX3_exit_43 : decode cX3_exit 43 = .ok (.iload_n 1, 1) := by decide +kernel
theorem dX3_exit_44 : decode cX3_exit 44 = .ok (.iconst 0, 1) := by decide +kernel
theorem dX3_exit_45 : decode cX3_exit 45 = .ok (.bastore, 1) := by decide +kernel
theorem dX3_exit_46 : decode cX3_exit 46 = .ok (.aload_n 0, 1) := by decide +kernel
theorem dX3_exit_47 : decode cX3_exit 47 = .ok (.invokevirtual 44, 3) := by decide +kernel
theorem dX3_exit_50 : decode cX3_exit 50 = .ok (.iload_n 2, 1) := by decide +kernel
theorem dX3_exit_51 : decode cX3_exit 51 = .ok (.isub, 1) := by decide +kernel
theorem dX3_exit_52 : decode cX3_exit 52 = .ok (.ireturn, 1) := by decide +kernel
theorem dX3_map_0 : decode cX3_map 0 = .ok (.aload_n 0, 1) := by decide +kernel
theorem dX3_map_1 : decode cX3_map 1 = .ok (.iload_n 1, 1) := by decide +kernel
theorem dX3_map_2 : decode cX3_map 2 = .ok (.invokevirtual 47, 3) := by decide +kernel
theorem dX3_map_5 : decode cX3_map 5 = .ok (.ifCond .eq 5, 3) := by decide +kernel
theorem dX3_map_8 : decode cX3_map 8 = .ok (.iconst (-1), 1) := by decide +kernel
theorem dX3_map_9 : decode cX3_map 9 = .ok (.ireturn, 1) := by decide +kernel
theorem dX3_map_10 : decode cX3_map 10 = .ok (.iload_n 2, 1) := by decide +kernel
theorem dX3_map_11 : decode cX3_map 11 = .ok (.invokestatic 55, 3) := by decide +kernel
theorem dX3_map_14 : decode cX3_map 14 = .ok (.ifCond .ne 6, 3) := by decide +kernel
theorem dX3_map_17 : decode cX3_map 17 = .ok (.bipush (-2), 2) := by decide +kernel
theorem dX3_map_19 : decode cX3_map 19 = .ok (.ireturn, 1) := by decide +kernel
theorem dX3_map_20 : decode cX3_map 20 = .ok (.bipush 64, 2) := by decide +kernel
theorem dX3_map_22 : decode cX3_map 22 = .ok (.iload_n 1, 1) := by decide +kernel
theorem dX3_map_23 : decode cX3_map 23 = .ok (.imul, 1) := by decide +kernel
theorem dX3_map_24 : decode cX3_map 24 = .ok (.iload_n 2, 1) := by decide +kernel
theorem dX3_map_25 : decode cX3_map 25 = .ok (.iadd, 1) := by decide +kernel
theorem dX3_map_26 : decode cX3_map 26 = .ok (.istore 4, 2) := by decide +kernel
theorem dX3_map_28 : decode cX3_map 28 = .ok (.aload_n 0, 1) := by decide +kernel
theorem dX3_map_29 : decode cX3_map 29 = .ok (.getfield 13, 3) := by decide +kernel
theorem dX3_map_32 : decode cX3_map 32 = .ok (.iload 4, 2) := by decide +kernel
theorem dX3_map_34 : decode cX3_map 34 = .ok (.iaload, 1) := by decide +kernel
theorem dX3_map_35 : decode cX3_map 35 = .ok (.ifCond .le 6, 3) := by decide +kernel
theorem dX3_map_38 : decode cX3_map 38 = .ok (.bipush (-4), 2) := by decide +kernel
theorem dX3_map_40 : decode cX3_map 40 = .ok (.ireturn, 1) := by decide +kernel
theorem dX3_map_41 : decode cX3_map 41 = .ok (.iconst 1, 1) := by decide +kernel
theorem dX3_map_42 : decode cX3_map 42 = .ok (.aload_n 0, 1) := by decide +kernel
theorem dX3_map_43 : decode cX3_map 43 = .ok (.iload_n 1, 1) := by decide +kernel
theorem dX3_map_44 : decode cX3_map 44 = .ok (.iload_n 2, 1) := by decide +kernel
theorem dX3_map_45 : decode cX3_map 45 = .ok (.invokevirtual 58, 3) := by decide +kernel
theorem dX3_map_48 : decode cX3_map 48 = .ok (.iadd, 1) := by decide +kernel
theorem dX3_map_49 : decode cX3_map 49 = .ok (.istore 5, 2) := by decide +kernel
theorem dX3_map_51 : decode cX3_map 51 = .ok (.aload_n 0, 1) := by decide +kernel
theorem dX3_map_52 : decode cX3_map 52 = .ok (.invokevirtual 44, 3) := by decide +kernel
theorem dX3_map_55 : decode cX3_map 55 = .ok (.iload 5, 2) := by decide +kernel
theorem dX3_map_57 : decode cX3_map 57 = .ok (.if_icmp .ge 6, 3) := by decide +kernel
theorem dX3_map_60 : decode cX3_map 60 = .ok (.bipush (-8), 2) := by decide +kernel
theorem dX3_map_62 : decode cX3_map 62 = .ok (.ireturn, 1) := by decide +kernel
theorem dX3_map_63 : decode cX3_map 63 = .ok (.aload_n 0, 1) := by decide +kernel
theorem dX3_map_64 : decode cX3_map 64 = .ok (.invokevirtual 62, 3) := by decide +kernel
theorem dX3_map_67 : decode cX3_map 67 = .ok (.istore 6, 2) := by decide +kernel
theorem dX3_map_69 : decode cX3_map 69 = .ok (.iconst 0, 1) := by decide +kernel
theorem dX3_map_70 : decode cX3_map 70 = .ok (.istore 7, 2) := by decide +kernel
theorem dX3_map_72 : decode cX3_map 72 = .ok (.iload 7, 2) := by decide +kernel
theorem dX3_map_74 : decode cX3_map 74 = .ok (.iconst 4, 1) := by decide +kernel
theorem dX3_map_75 : decode cX3_map 75 = .ok (.if_icmp .ge 22, 3) := by decide +kernel
theorem dX3_map_78 : decode cX3_map 78 = .ok (.aload_n 0, 1) := by decide +kernel
theorem dX3_map_79 : decode cX3_map 79 = .ok (.getfield 26, 3) := by decide +kernel
theorem dX3_map_82 : decode cX3_map 82 = .ok (.iconst 4, 1) := by decide +kernel
theorem dX3_map_83 : decode cX3_map 83 = .ok (.iload 6, 2) := by decide +kernel
theorem dX3_map_85 : decode cX3_map 85 = .ok (.imul, 1) := by decide +kernel
theorem dX3_map_86 : decode cX3_map 86 = .ok (.iload 7, 2) := by decide +kernel
theorem dX3_map_88 : decode cX3_map 88 = .ok (.iadd, 1) := by decide +kernel
theorem dX3_map_89 : decode cX3_map 89 = .ok (.iconst 0, 1) := by decide +kernel
theorem dX3_map_90 : decode cX3_map 90 = .ok (.iastore, 1) := by decide +kernel
theorem dX3_map_91 : decode cX3_map 91 = .ok (.iinc 7 1, 3) := by decide +kernel
theorem dX3_map_94 : decode cX3_map 94 = .ok (.goto (-22), 3) := by decide +kernel
theorem dX3_map_97 : decode cX3_map 97 = .ok (.aload_n 0, 1) := by decide +kernel
theorem dX3_map_98 : decode cX3_map 98 = .ok (.getfield 13, 3) := by decide +kernel
theorem dX3_map_101 : decode cX3_map 101 = .ok (.iload 4, 2) := by decide +kernel
theorem dX3_map_103 : decode cX3_map 103 = .ok (.iload 6, 2) := by decide +kernel
theorem dX3_map_105 : decode cX3_map 105 = .ok (.iconst 1, 1) := by decide +kernel
theorem dX3_map_106 : decode cX3_map 106 = .ok (.iadd, 1) := by decide +kernel
theorem dX3_map_107 : decode cX3_map 107 = .ok (.iastore, 1) := by decide +kernel
theorem dX3_map_108 : decode cX3_map 108 = .ok (.aload_n 0, 1) := by decide +kernel
theorem dX3_map_109 : decode cX3_map 109 = .ok (.getfield 17, 3) := by decide +kernel
theorem dX3_map_112 : decode cX3_map 112 = .ok (.iload 4, 2) := by decide +kernel
theorem dX3_map_114 : decode cX3_map 114 = .ok (.iload_n 3, 1) := by decide +kernel
theorem dX3_map_115 : decode cX3_map 115 = .ok (.bastore, 1) := by decide +kernel
theorem dX3_map_116 : decode cX3_map 116 = .ok (.aload_n 0, 1) := by decide +kernel
theorem dX3_map_117 : decode cX3_map 117 = .ok (.getfield 20, 3) := by decide +kernel
theorem dX3_map_120 : decode cX3_map 120 = .ok (.iload 4, 2) := by decide +kernel
theorem dX3_map_122 : decode cX3_map 122 = .ok (.iconst 1, 1) := by decide +kernel
theorem dX3_map_123 : decode cX3_map 123 = .ok (.bastore, 1) := by decide +kernel
theorem dX3_map_124 : decode cX3_map 124 = .ok (.aload_n 0, 1) := by decide +kernel
theorem dX3_map_125 : decode cX3_map 125 = .ok (.getfield 23, 3) := by decide +kernel
theorem dX3_map_128 : decode cX3_map 128 = .ok (.iload 4, 2) := by decide +kernel
theorem dX3_map_130 : decode cX3_map 130 = .ok (.iconst 0, 1) := by decide +kernel
theorem dX3_map_131 : decode cX3_map 131 = .ok (.bastore, 1) := by decide +kernel
theorem dX3_map_132 : decode cX3_map 132 = .ok (.iload 5, 2) := by decide +kernel
theorem dX3_map_134 : decode cX3_map 134 = .ok (.ireturn, 1) := by decide +kernel
theorem dX3_attach_0 : decode cX3_attach 0 = .ok (.aload_n 0, 1) := by decide +kernel
theorem dX3_attach_1 : decode cX3_attach 1 = .ok (.iload_n 1, 1) := by decide +kernel
theorem dX3_attach_2 : decode cX3_attach 2 = .ok (.invokevirtual 47, 3) := by decide +kernel
theorem dX3_attach_5 : decode cX3_attach 5 = .ok (.ifCond .ne 11, 3) := by decide +kernel
theorem dX3_attach_8 : decode cX3_attach 8 = .ok (.aload_n 0, 1) := by decide +kernel
theorem dX3_attach_9 : decode cX3_attach 9 = .ok (.iload_n 3, 1) := by decide +kernel
theorem dX3_attach_10 : decode cX3_attach 10 = .ok (.invokevirtual 47, 3) := by decide +kernel
theorem dX3_attach_13 : decode cX3_attach 13 = .ok (.ifCond .eq 5, 3) := by decide +kernel
theorem dX3_attach_16 : decode cX3_attach 16 = .ok (.iconst (-1), 1) := by decide +kernel
theorem dX3_attach_17 : decode cX3_attach 17 = .ok (.ireturn, 1) := by decide +kernel
theorem dX3_attach_18 : decode cX3_attach 18 = .ok (.iload_n 2, 1) := by decide +kernel
theorem dX3_attach_19 : decode cX3_attach 19 = .ok (.invokestatic 55, 3) := by decide +kernel
theorem dX3_attach_22 : decode cX3_attach 22 = .ok (.ifCond .eq 11, 3) := by decide +kernel
theorem dX3_attach_25 : decode cX3_attach 25 = .ok (.iload 4, 2) := by decide +kernel
theorem dX3_attach_27 : decode cX3_attach 27 = .ok (.invokestatic 55, 3) := by decide +kernel
theorem dX3_attach_30 : decode cX3_attach 30 = .ok (.ifCond .ne 6, 3) := by decide +kernel
theorem dX3_attach_33 : decode cX3_attach 33 = .ok (.bipush (-2), 2) := by decide +kernel
theorem dX3_attach_35 : decode cX3_attach 35 = .ok (.ireturn, 1) := by decide +kernel
theorem dX3_attach_36 : decode cX3_attach 36 = .ok (.bipush 64, 2) := by decide +kernel
theorem dX3_attach_38 : decode cX3_attach 38 = .ok (.iload_n 1, 1) := by decide +kernel
theorem dX3_attach_39 : decode cX3_attach 39 = .ok (.imul, 1) := by decide +kernel
theorem dX3_attach_40 : decode cX3_attach 40 = .ok (.iload_n 2, 1) := by decide +kernel
theorem dX3_attach_41 : decode cX3_attach 41 = .ok (.iadd, 1) := by decide +kernel
theorem dX3_attach_42 : decode cX3_attach 42 = .ok (.istore 5, 2) := by decide +kernel
theorem dX3_attach_44 : decode cX3_attach 44 = .ok (.bipush 64, 2) := by decide +kernel
theorem dX3_attach_46 : decode cX3_attach 46 = .ok (.iload_n 3, 1) := by decide +kernel
theorem dX3_attach_47 : decode cX3_attach 47 = .ok (.imul, 1) := by decide +kernel
theorem dX3_attach_48 : decode cX3_attach 48 = .ok (.iload 4, 2) := by decide +kernel
theorem dX3_attach_50 : decode cX3_attach 50 = .ok (.iadd, 1) := by decide +kernel
theorem dX3_attach_51 : decode cX3_attach 51 = .ok (.istore 6, 2) := by decide +kernel
theorem dX3_attach_53 : decode cX3_attach 53 = .ok (.aload_n 0, 1) := by decide +kernel
theorem dX3_attach_54 : decode cX3_attach 54 = .ok (.getfield 13, 3) := by decide +kernel
theorem dX3_attach_57 : decode cX3_attach 57 = .ok (.iload 6, 2) := by decide +kernel
theorem dX3_attach_59 : decode cX3_attach 59 = .ok (.iaload, 1) := by decide +kernel
theorem dX3_attach_60 : decode cX3_attach 60 = .ok (.ifCond .ne 6, 3) := by decide +kernel
theorem dX3_attach_63 : decode cX3_attach 63 = .ok (.bipush (-3), 2) := by decide +kernel
theorem dX3_attach_65 : decode cX3_attach 65 = .ok (.ireturn, 1) := by decide +kernel
theorem dX3_attach_66 : decode cX3_attach 66 = .ok (.aload_n 0, 1) := by decide +kernel
theorem dX3_attach_67 : decode cX3_attach 67 = .ok (.getfield 13, 3) := by decide +kernel
theorem dX3_attach_70 : decode cX3_attach 70 = .ok (.iload 5, 2) := by decide +kernel
theorem dX3_attach_72 : decode cX3_attach 72 = .ok (.iaload, 1) := by decide +kernel
theorem dX3_attach_73 : decode cX3_attach 73 = .ok (.ifCond .le 6, 3) := by decide +kernel
theorem dX3_attach_76 : decode cX3_attach 76 = .ok (.bipush (-4), 2) := by decide +kernel
theorem dX3_attach_78 : decode cX3_attach 78 = .ok (.ireturn, 1) := by decide +kernel
theorem dX3_attach_79 : decode cX3_attach 79 = .ok (.aload_n 0, 1) := by decide +kernel
theorem dX3_attach_80 : decode cX3_attach 80 = .ok (.getfield 17, 3) := by decide +kernel
theorem dX3_attach_83 : decode cX3_attach 83 = .ok (.iload 6, 2) := by decide +kernel
theorem dX3_attach_85 : decode cX3_attach 85 = .ok (.baload, 1) := by decide +kernel
theorem dX3_attach_86 : decode cX3_attach 86 = .ok (.ifCond .ne 6, 3) := by decide +kernel
theorem dX3_attach_89 : decode cX3_attach 89 = .ok (.bipush (-6), 2) := by decide +kernel
theorem dX3_attach_91 : decode cX3_attach 91 = .ok (.ireturn, 1) := by decide +kernel
theorem dX3_attach_92 : decode cX3_attach 92 = .ok (.aload_n 0, 1) := by decide +kernel
theorem dX3_attach_93 : decode cX3_attach 93 = .ok (.iload_n 1, 1) := by decide +kernel
theorem dX3_attach_94 : decode cX3_attach 94 = .ok (.iload_n 2, 1) := by decide +kernel
theorem dX3_attach_95 : decode cX3_attach 95 = .ok (.invokevirtual 58, 3) := by decide +kernel
theorem dX3_attach_98 : decode cX3_attach 98 = .ok (.istore 7, 2) := by decide +kernel
theorem dX3_attach_100 : decode cX3_attach 100 = .ok (.aload_n 0, 1) := by decide +kernel
theorem dX3_attach_101 : decode cX3_attach 101 = .ok (.invokevirtual 44, 3) := by decide +kernel
theorem dX3_attach_104 : decode cX3_attach 104 = .ok (.iload 7, 2) := by decide +kernel
theorem dX3_attach_106 : decode cX3_attach 106 = .ok (.if_icmp .ge 6, 3) := by decide +kernel
theorem dX3_attach_109 : decode cX3_attach 109 = .ok (.bipush (-8), 2) := by decide +kernel
theorem dX3_attach_111 : decode cX3_attach 111 = .ok (.ireturn, 1) := by decide +kernel
theorem dX3_attach_112 : decode cX3_attach 112 = .ok (.aload_n 0, 1) := by decide +kernel
theorem dX3_attach_113 : decode cX3_attach 113 = .ok (.getfield 13, 3) := by decide +kernel
theorem dX3_attach_116 : decode cX3_attach 116 = .ok (.iload 5, 2) := by decide +kernel
theorem dX3_attach_118 : decode cX3_attach 118 = .ok (.aload_n 0, 1) := by decide +kernel
theorem dX3_attach_119 : decode cX3_attach 119 = .ok (.getfield 13, 3) := by decide +kernel
theorem dX3_attach_122 : decode cX3_attach 122 = .ok (.iload 6, 2) := by decide +kernel
theorem dX3_attach_124 : decode cX3_attach 124 = .ok (.iaload, 1) := by decide +kernel
theorem dX3_attach_125 : decode cX3_attach 125 = .ok (.iastore, 1) := by decide +kernel
theorem dX3_attach_126 : decode cX3_attach 126 = .ok (.aload_n 0, 1) := by decide +kernel
theorem dX3_attach_127 : decode cX3_attach 127 = .ok (.getfield 17, 3) := by decide +kernel
theorem dX3_attach_130 : decode cX3_attach 130 = .ok (.iload 5, 2) := by decide +kernel
theorem dX3_attach_132 : decode cX3_attach 132 = .ok (.iconst 1, 1) := by decide +kernel
theorem dX3_attach_133 : decode cX3_attach 133 = .ok (.bastore, 1) := by decide +kernel
theorem dX3_attach_134 : decode cX3_attach 134 = .ok (.aload_n 0, 1) := by decide +kernel
theorem dX3_attach_135 : decode cX3_attach 135 = .ok (.getfield 20, 3) := by decide +kernel
theorem dX3_attach_138 : decode cX3_attach 138 = .ok (.iload 5, 2) := by decide +kernel
theorem dX3_attach_140 : decode cX3_attach 140 = .ok (.aload_n 0, 1) := by decide +kernel
theorem dX3_attach_141 : decode cX3_attach 141 = .ok (.getfield 20, 3) := by decide +kernel
theorem dX3_attach_144 : decode cX3_attach 144 = .ok (.iload 6, 2) := by decide +kernel
theorem dX3_attach_146 : decode cX3_attach 146 = .ok (.baload, 1) := by decide +kernel
theorem dX3_attach_147 : decode cX3_attach 147 = .ok (.bastore, 1) := by decide +kernel
theorem dX3_attach_148 : decode cX3_attach 148 = .ok (.aload_n 0, 1) := by decide +kernel
theorem dX3_attach_149 : decode cX3_attach 149 = .ok (.getfield 23, 3) := by decide +kernel
theorem dX3_attach_152 : decode cX3_attach 152 = .ok (.iload 5, 2) := by decide +kernel
theorem dX3_attach_154 : decode cX3_attach 154 = .ok (.iconst 0, 1) := by decide +kernel
theorem dX3_attach_155 : decode cX3_attach 155 = .ok (.bastore, 1) := by decide +kernel
theorem dX3_attach_156 : decode cX3_attach 156 = .ok (.iload 7, 2) := by decide +kernel
theorem dX3_attach_158 : decode cX3_attach 158 = .ok (.ireturn, 1) := by decide +kernel
theorem dX3_bar_0 : decode cX3_bar 0 = .ok (.aload_n 0, 1) := by decide +kernel
theorem dX3_bar_1 : decode cX3_bar 1 = .ok (.iload_n 1, 1) := by decide +kernel
theorem dX3_bar_2 : decode cX3_bar 2 = .ok (.invokevirtual 47, 3) := by decide +kernel
theorem dX3_bar_5 : decode cX3_bar 5 = .ok (.ifCond .eq 7, 3) := by decide +kernel
theorem dX3_bar_8 : decode cX3_bar 8 = .ok (.iconst (-1), 1) := by decide +kernel
theorem dX3_bar_9 : decode cX3_bar 9 = .ok (.goto 35, 3) := by decide +kernel
theorem dX3_bar_12 : decode cX3_bar 12 = .ok (.iload_n 2, 1) := by decide +kernel
theorem dX3_bar_13 : decode cX3_bar 13 = .ok (.invokestatic 55, 3) := by decide +kernel
theorem dX3_bar_16 : decode cX3_bar 16 = .ok (.ifCond .ne 8, 3) := by decide +kernel
theorem dX3_bar_19 : decode cX3_bar 19 = .ok (.bipush (-2), 2) := by decide +kernel
theorem dX3_bar_21 : decode cX3_bar 21 = .ok (.goto 23, 3) := by decide +kernel
theorem dX3_bar_24 : decode cX3_bar 24 = .ok (.aload_n 0, 1) := by decide +kernel
theorem dX3_bar_25 : decode cX3_bar 25 = .ok (.getfield 13, 3) := by decide +kernel
theorem dX3_bar_28 : decode cX3_bar 28 = .ok (.bipush 64, 2) := by decide +kernel
theorem dX3_bar_30 : decode cX3_bar 30 = .ok (.iload_n 1, 1) := by decide +kernel
theorem dX3_bar_31 : decode cX3_bar 31 = .ok (.imul, 1) := by decide +kernel
theorem dX3_bar_32 : decode cX3_bar 32 = .ok (.iload_n 2, 1) := by decide +kernel
theorem dX3_bar_33 : decode cX3_bar 33 = .ok (.iadd, 1) := by decide +kernel
theorem dX3_bar_34 : decode cX3_bar 34 = .ok (.iaload, 1) := by decide +kernel
theorem dX3_bar_35 : decode cX3_bar 35 = .ok (.ifCond .ne 8, 3) := by decide +kernel
theorem dX3_bar_38 : decode cX3_bar 38 = .ok (.bipush (-3), 2) := by decide +kernel
theorem dX3_bar_40 : decode cX3_bar 40 = .ok (.goto 4, 3) := by decide +kernel
theorem dX3_bar_43 : decode cX3_bar 43 = .ok (.iconst 0, 1) := by decide +kernel
theorem dX3_bar_44 : decode cX3_bar 44 = .ok (.ireturn, 1) := by decide +kernel
theorem dX3_unmap_0 : decode cX3_unmap 0 = .ok (.aload_n 0, 1) := by decide +kernel
theorem dX3_unmap_1 : decode cX3_unmap 1 = .ok (.iload_n 1, 1) := by decide +kernel
theorem dX3_unmap_2 : decode cX3_unmap 2 = .ok (.iload_n 2, 1) := by decide +kernel
theorem dX3_unmap_3 : decode cX3_unmap 3 = .ok (.invokevirtual 65, 3) := by decide +kernel
theorem dX3_unmap_6 : decode cX3_unmap 6 = .ok (.istore_n 3, 1) := by decide +kernel
theorem dX3_unmap_7 : decode cX3_unmap 7 = .ok (.iload_n 3, 1) := by decide +kernel
theorem dX3_unmap_8 : decode cX3_unmap 8 = .ok (.ifCond .ge 5, 3) := by decide +kernel
theorem dX3_unmap_11 : decode cX3_unmap 11 = .ok (.iload_n 3, 1) := by decide +kernel
theorem dX3_unmap_12 : decode cX3_unmap 12 = .ok (.ireturn, 1) := by decide +kernel
theorem dX3_unmap_13 : decode cX3_unmap 13 = .ok (.aload_n 0, 1) := by decide +kernel
theorem dX3_unmap_14 : decode cX3_unmap 14 = .ok (.invokevirtual 44, 3) := by decide +kernel
theorem dX3_unmap_17 : decode cX3_unmap 17 = .ok (.istore 4, 2) := by decide +kernel
theorem dX3_unmap_19 : decode cX3_unmap 19 = .ok (.aload_n 0, 1) := by decide +kernel
theorem dX3_unmap_20 : decode cX3_unmap 20 = .ok (.bipush 64, 2) := by decide +kernel
theorem dX3_unmap_22 : decode cX3_unmap 22 = .ok (.iload_n 1, 1) := by decide +kernel
theorem dX3_unmap_23 : decode cX3_unmap 23 = .ok (.imul, 1) := by decide +kernel
theorem dX3_unmap_24 : decode cX3_unmap 24 = .ok (.iload_n 2, 1) := by decide +kernel
theorem dX3_unmap_25 : decode cX3_unmap 25 = .ok (.iadd, 1) := by decide +kernel
theorem dX3_unmap_26 : decode cX3_unmap 26 = .ok (.invokevirtual 51, 3) := by decide +kernel
theorem dX3_unmap_29 : decode cX3_unmap 29 = .ok (.aload_n 0, 1) := by decide +kernel
theorem dX3_unmap_30 : decode cX3_unmap 30 = .ok (.invokevirtual 44, 3) := by decide +kernel
theorem dX3_unmap_33 : decode cX3_unmap 33 = .ok (.iload 4, 2) := by decide +kernel
theorem dX3_unmap_35 : decode cX3_unmap 35 = .ok (.isub, 1) := by decide +kernel
theorem dX3_unmap_36 : decode cX3_unmap 36 = .ok (.ireturn, 1) := by decide +kernel
theorem dX3_protect_0 : decode cX3_protect 0 = .ok (.aload_n 0, 1) := by decide +kernel
theorem dX3_protect_1 : decode cX3_protect 1 = .ok (.iload_n 1, 1) := by decide +kernel
theorem dX3_protect_2 : decode cX3_protect 2 = .ok (.iload_n 2, 1) := by decide +kernel
theorem dX3_protect_3 : decode cX3_protect 3 = .ok (.invokevirtual 65, 3) := by decide +kernel
theorem dX3_protect_6 : decode cX3_protect 6 = .ok (.istore 4, 2) := by decide +kernel
theorem dX3_protect_8 : decode cX3_protect 8 = .ok (.iload 4, 2) := by decide +kernel
theorem dX3_protect_10 : decode cX3_protect 10 = .ok (.ifCond .ge 6, 3) := by decide +kernel
theorem dX3_protect_13 : decode cX3_protect 13 = .ok (.iload 4, 2) := by decide +kernel
theorem dX3_protect_15 : decode cX3_protect 15 = .ok (.ireturn, 1) := by decide +kernel
theorem dX3_protect_16 : decode cX3_protect 16 = .ok (.aload_n 0, 1) := by decide +kernel
theorem dX3_protect_17 : decode cX3_protect 17 = .ok (.getfield 20, 3) := by decide +kernel
theorem dX3_protect_20 : decode cX3_protect 20 = .ok (.bipush 64, 2) := by decide +kernel
theorem dX3_protect_22 : decode cX3_protect 22 = .ok (.iload_n 1, 1) := by decide +kernel
theorem dX3_protect_23 : decode cX3_protect 23 = .ok (.imul, 1) := by decide +kernel
theorem dX3_protect_24 : decode cX3_protect 24 = .ok (.iload_n 2, 1) := by decide +kernel
theorem dX3_protect_25 : decode cX3_protect 25 = .ok (.iadd, 1) := by decide +kernel
theorem dX3_protect_26 : decode cX3_protect 26 = .ok (.baload, 1) := by decide +kernel
theorem dX3_protect_27 : decode cX3_protect 27 = .ok (.istore 5, 2) := by decide +kernel
theorem dX3_protect_29 : decode cX3_protect 29 = .ok (.aload_n 0, 1) := by decide +kernel
theorem dX3_protect_30 : decode cX3_protect 30 = .ok (.getfield 20, 3) := by decide +kernel
theorem dX3_protect_33 : decode cX3_protect 33 = .ok (.bipush 64, 2) := by decide +kernel
theorem dX3_protect_35 : decode cX3_protect 35 = .ok (.iload_n 1, 1) := by decide +kernel
theorem dX3_protect_36 : decode cX3_protect 36 = .ok (.imul, 1) := by decide +kernel
theorem dX3_protect_37 : decode cX3_protect 37 = .ok (.iload_n 2, 1) := by decide +kernel
theorem dX3_protect_38 : decode cX3_protect 38 = .ok (.iadd, 1) := by decide +kernel
theorem dX3_protect_39 : decode cX3_protect 39 = .ok (.iload_n 3, 1) := by decide +kernel
theorem dX3_protect_40 : decode cX3_protect 40 = .ok (.bastore, 1) := by decide +kernel
theorem dX3_protect_41 : decode cX3_protect 41 = .ok (.iload 5, 2) := by decide +kernel
theorem dX3_protect_43 : decode cX3_protect 43 = .ok (.iload_n 3, 1) := by decide +kernel
theorem dX3_protect_44 : decode cX3_protect 44 = .ok (.if_icmp .ne 7, 3) := by decide +kernel
theorem dX3_protect_47 : decode cX3_protect 47 = .ok (.iconst 0, 1) := by decide +kernel
theorem dX3_protect_48 : decode cX3_protect 48 = .ok (.goto 4, 3) := by decide +kernel
theorem dX3_protect_51 : decode cX3_protect 51 = .ok (.iconst 1, 1) := by decide +kernel
theorem dX3_protect_52 : decode cX3_protect 52 = .ok (.ireturn, 1) := by decide +kernel
theorem dX3_pageOf_0 : decode cX3_pageOf 0 = .ok (.iload_n 0, 1) := by decide +kernel
theorem dX3_pageOf_1 : decode cX3_pageOf 1 = .ok (.ifCond .lt 16, 3) := by decide +kernel
theorem dX3_pageOf_4 : decode cX3_pageOf 4 = .ok (.iload_n 0, 1) := by decide +kernel
theorem dX3_pageOf_5 : decode cX3_pageOf 5 = .ok (.sipush 255, 3) := by decide +kernel
theorem dX3_pageOf_8 : decode cX3_pageOf 8 = .ok (.if_icmp .gt 9, 3) := by decide +kernel
theorem dX3_pageOf_11 : decode cX3_pageOf 11 = .ok (.iload_n 0, 1) := by decide +kernel
theorem dX3_pageOf_12 : decode cX3_pageOf 12 = .ok (.iconst 4, 1) := by decide +kernel
theorem dX3_pageOf_13 : decode cX3_pageOf 13 = .ok (.idiv, 1) := by decide +kernel
theorem dX3_pageOf_14 : decode cX3_pageOf 14 = .ok (.goto 4, 3) := by decide +kernel
theorem dX3_pageOf_17 : decode cX3_pageOf 17 = .ok (.iconst (-1), 1) := by decide +kernel
theorem dX3_pageOf_18 : decode cX3_pageOf 18 = .ok (.ireturn, 1) := by decide +kernel
theorem dX3_write_0 : decode cX3_write 0 = .ok (.iload_n 2, 1) := by decide +kernel
theorem dX3_write_1 : decode cX3_write 1 = .ok (.invokestatic 68, 3) := by decide +kernel
theorem dX3_write_4 : decode cX3_write 4 = .ok (.istore 4, 2) := by decide +kernel
theorem dX3_write_6 : decode cX3_write 6 = .ok (.aload_n 0, 1) := by decide +kernel
theorem dX3_write_7 : decode cX3_write 7 = .ok (.iload_n 1, 1) := by decide +kernel
theorem dX3_write_8 : decode cX3_write 8 = .ok (.iload 4, 2) := by decide +kernel
theorem dX3_write_10 : decode cX3_write 10 = .ok (.invokevirtual 65, 3) := by decide +kernel
theorem dX3_write_13 : decode cX3_write 13 = .ok (.istore 5, 2) := by decide +kernel
theorem dX3_write_15 : decode cX3_write 15 = .ok (.iload 5, 2) := by decide +kernel
theorem dX3_write_17 : decode cX3_write 17 = .ok (.ifCond .ge 6, 3) := by decide +kernel
theorem dX3_write_20 : decode cX3_write 20 = .ok (.iload 5, 2) := by decide +kernel
theorem dX3_write_22 : decode cX3_write 22 = .ok (.ireturn, 1) := by decide +kernel
theorem dX3_write_23 : decode cX3_write 23 = .ok (.bipush 64, 2) := by decide +kernel
theorem dX3_write_25 : decode cX3_write 25 = .ok (.iload_n 1, 1) := by decide +kernel
theorem dX3_write_26 : decode cX3_write 26 = .ok (.imul, 1) := by decide +kernel
theorem dX3_write_27 : decode cX3_write 27 = .ok (.iload 4, 2) := by decide +kernel
theorem dX3_write_29 : decode cX3_write 29 = .ok (.iadd, 1) := by decide +kernel
theorem dX3_write_30 : decode cX3_write 30 = .ok (.istore 6, 2) := by decide +kernel
theorem dX3_write_32 : decode cX3_write 32 = .ok (.aload_n 0, 1) := by decide +kernel
theorem dX3_write_33 : decode cX3_write 33 = .ok (.getfield 20, 3) := by decide +kernel
theorem dX3_write_36 : decode cX3_write 36 = .ok (.iload 6, 2) := by decide +kernel
theorem dX3_write_38 : decode cX3_write 38 = .ok (.baload, 1) := by decide +kernel
theorem dX3_write_39 : decode cX3_write 39 = .ok (.ifCond .ne 6, 3) := by decide +kernel
theorem dX3_write_42 : decode cX3_write 42 = .ok (.bipush (-5), 2) := by decide +kernel
theorem dX3_write_44 : decode cX3_write 44 = .ok (.ireturn, 1) := by decide +kernel
theorem dX3_write_45 : decode cX3_write 45 = .ok (.aload_n 0, 1) := by decide +kernel
theorem dX3_write_46 : decode cX3_write 46 = .ok (.getfield 13, 3) := by decide +kernel
theorem dX3_write_49 : decode cX3_write 49 = .ok (.iload 6, 2) := by decide +kernel
theorem dX3_write_51 : decode cX3_write 51 = .ok (.iaload, 1) := by decide +kernel
theorem dX3_write_52 : decode cX3_write 52 = .ok (.iconst 1, 1) := by decide +kernel
theorem dX3_write_53 : decode cX3_write 53 = .ok (.isub, 1) := by decide +kernel
theorem dX3_write_54 : decode cX3_write 54 = .ok (.istore 7, 2) := by decide +kernel
theorem dX3_write_56 : decode cX3_write 56 = .ok (.aload_n 0, 1) := by decide +kernel
theorem dX3_write_57 : decode cX3_write 57 = .ok (.getfield 23, 3) := by decide +kernel
theorem dX3_write_60 : decode cX3_write 60 = .ok (.iload 6, 2) := by decide +kernel
theorem dX3_write_62 : decode cX3_write 62 = .ok (.baload, 1) := by decide +kernel
theorem dX3_write_63 : decode cX3_write 63 = .ok (.ifCond .eq 17, 3) := by decide +kernel
theorem dX3_write_66 : decode cX3_write 66 = .ok (.aload_n 0, 1) := by decide +kernel
theorem dX3_write_67 : decode cX3_write 67 = .ok (.iload 7, 2) := by decide +kernel
theorem dX3_write_69 : decode cX3_write 69 = .ok (.invokevirtual 33, 3) := by decide +kernel
theorem dX3_write_72 : decode cX3_write 72 = .ok (.iconst 1, 1) := by decide +kernel
theorem dX3_write_73 : decode cX3_write 73 = .ok (.if_icmp .le 7, 3) := by decide +kernel
theorem dX3_write_76 : decode cX3_write 76 = .ok (.iconst 1, 1) := by decide +kernel
theorem dX3_write_77 : decode cX3_write 77 = .ok (.goto 4, 3) := by decide +kernel
theorem dX3_write_80 : decode cX3_write 80 = .ok (.iconst 0, 1) := by decide +kernel
theorem dX3_write_81 : decode cX3_write 81 = .ok (.istore 8, 2) := by decide +kernel
theorem dX3_write_83 : decode cX3_write 83 = .ok (.iload 8, 2) := by decide +kernel
theorem dX3_write_85 : decode cX3_write 85 = .ok (.ifCond .eq 13, 3) := by decide +kernel
theorem dX3_write_88 : decode cX3_write 88 = .ok (.aload_n 0, 1) := by decide +kernel
theorem dX3_write_89 : decode cX3_write 89 = .ok (.invokevirtual 44, 3) := by decide +kernel
theorem dX3_write_92 : decode cX3_write 92 = .ok (.ifCond .ne 6, 3) := by decide +kernel
theorem dX3_write_95 : decode cX3_write 95 = .ok (.bipush (-8), 2) := by decide +kernel
theorem dX3_write_97 : decode cX3_write 97 = .ok (.ireturn, 1) := by decide +kernel
theorem dX3_write_98 : decode cX3_write 98 = .ok (.iload 8, 2) := by decide +kernel
theorem dX3_write_100 : decode cX3_write 100 = .ok (.ifCond .eq 7, 3) := by decide +kernel
theorem dX3_write_103 : decode cX3_write 103 = .ok (.iconst 2, 1) := by decide +kernel
theorem dX3_write_104 : decode cX3_write 104 = .ok (.goto 18, 3) := by decide +kernel
theorem dX3_write_107 : decode cX3_write 107 = .ok (.aload_n 0, 1) := by decide +kernel
theorem dX3_write_108 : decode cX3_write 108 = .ok (.getfield 23, 3) := by decide +kernel
theorem dX3_write_111 : decode cX3_write 111 = .ok (.iload 6, 2) := by decide +kernel
theorem dX3_write_113 : decode cX3_write 113 = .ok (.baload, 1) := by decide +kernel
theorem dX3_write_114 : decode cX3_write 114 = .ok (.ifCond .eq 7, 3) := by decide +kernel
theorem dX3_write_117 : decode cX3_write 117 = .ok (.iconst 1, 1) := by decide +kernel
theorem dX3_write_118 : decode cX3_write 118 = .ok (.goto 4, 3) := by decide +kernel
theorem dX3_write_121 : decode cX3_write 121 = .ok (.iconst 0, 1) := by decide +kernel
theorem dX3_write_122 : decode cX3_write 122 = .ok (.istore 9, 2) := by decide +kernel
theorem dX3_write_124 : decode cX3_write 124 = .ok (.iload 8, 2) := by decide +kernel
theorem dX3_write_126 : decode cX3_write 126 = .ok (.ifCond .eq 69, 3) := by decide +kernel
theorem dX3_write_129 : decode cX3_write 129 = .ok (.aload_n 0, 1) := by decide +kernel
theorem dX3_write_130 : decode cX3_write 130 = .ok (.invokevirtual 62, 3) := by decide +kernel
theorem dX3_write_133 : decode cX3_write 133 = .ok (.istore 10, 2) := by decide +kernel
theorem dX3_write_135 : decode cX3_write 135 = .ok (.iconst 0, 1) := by decide +kernel
theorem dX3_write_136 : decode cX3_write 136 = .ok (.istore 11, 2) := by decide +kernel
theorem dX3_write_138 : decode cX3_write 138 = .ok (.iload 11, 2) := by decide +kernel
theorem dX3_write_140 : decode cX3_write 140 = .ok (.iconst 4, 1) := by decide +kernel
theorem dX3_write_141 : decode cX3_write 141 = .ok (.if_icmp .ge 33, 3) := by decide +kernel
theorem dX3_write_144 : decode cX3_write 144 = .ok (.aload_n 0, 1) := by decide +kernel
theorem dX3_write_145 : decode cX3_write 145 = .ok (.getfield 26, 3) := by decide +kernel
theorem dX3_write_148 : decode cX3_write 148 = .ok (.iconst 4, 1) := by decide +kernel
theorem dX3_write_149 : decode cX3_write 149 = .ok (.iload 10, 2) := by decide +kernel
theorem dX3_write_151 : decode cX3_write 151 = .ok (.imul, 1) := by decide +kernel
theorem dX3_write_152 : decode cX3_write 152 = .ok (.iload 11, 2) := by decide +kernel
theorem dX3_write_154 : decode cX3_write 154 = .ok (.iadd, 1) := by decide +kernel
theorem dX3_write_155 : decode cX3_write 155 = .ok (.aload_n 0, 1) := by decide +kernel
theorem dX3_write_156 : decode cX3_write 156 = .ok (.getfield 26, 3) := by decide +kernel
theorem dX3_write_159 : decode cX3_write 159 = .ok (.iconst 4, 1) := by decide +kernel
theorem dX3_write_160 : decode cX3_write 160 = .ok (.iload 7, 2) := by decide +kernel
theorem dX3_write_162 : decode cX3_write 162 = .ok (.imul, 1) := by decide +kernel
theorem dX3_write_163 : decode cX3_write 163 = .ok (.iload 11, 2) := by decide +kernel
theorem dX3_write_165 : decode cX3_write 165 = .ok (.iadd, 1) := by decide +kernel
theorem dX3_write_166 : decode cX3_write 166 = .ok (.iaload, 1) := by decide +kernel
theorem dX3_write_167 : decode cX3_write 167 = .ok (.iastore, 1) := by decide +kernel
theorem dX3_write_168 : decode cX3_write 168 = .ok (.iinc 11 1, 3) := by decide +kernel
theorem dX3_write_171 : decode cX3_write 171 = .ok (.goto (-33), 3) := by decide +kernel
theorem dX3_write_174 : decode cX3_write 174 = .ok (.aload_n 0, 1) := by decide +kernel
theorem dX3_write_175 : decode cX3_write 175 = .ok (.getfield 13, 3) := by decide +kernel
theorem dX3_write_178 : decode cX3_write 178 = .ok (.iload 6, 2) := by decide +kernel
theorem dX3_write_180 : decode cX3_write 180 = .ok (.iload 10, 2) := by decide +kernel
theorem dX3_write_182 : decode cX3_write 182 = .ok (.iconst 1, 1) := by decide +kernel
theorem dX3_write_183 : decode cX3_write 183 = .ok (.iadd, 1) := by decide +kernel
theorem dX3_write_184 : decode cX3_write 184 = .ok (.iastore, 1) := by decide +kernel
theorem dX3_write_185 : decode cX3_write 185 = .ok (.aload_n 0, 1) := by decide +kernel
theorem dX3_write_186 : decode cX3_write 186 = .ok (.dup, 1) := by decide +kernel
theorem dX3_write_187 : decode cX3_write 187 = .ok (.getfield 71, 3) := by decide +kernel
theorem dX3_write_190 : decode cX3_write 190 = .ok (.iconst 1, 1) := by decide +kernel
theorem dX3_write_191 : decode cX3_write 191 = .ok (.iadd, 1) := by decide +kernel
theorem dX3_write_192 : decode cX3_write 192 = .ok (.putfield 71, 3) := by decide +kernel
theorem dX3_write_195 : decode cX3_write 195 = .ok (.aload_n 0, 1) := by decide +kernel
theorem dX3_write_196 : decode cX3_write 196 = .ok (.iload 9, 2) := by decide +kernel
theorem dX3_write_198 : decode cX3_write 198 = .ok (.ifCond .le 12, 3) := by decide +kernel
theorem dX3_write_201 : decode cX3_write 201 = .ok (.aload_n 0, 1) := by decide +kernel
theorem dX3_write_202 : decode cX3_write 202 = .ok (.getfield 75, 3) := by decide +kernel
theorem dX3_write_205 : decode cX3_write 205 = .ok (.iconst 1, 1) := by decide +kernel
theorem dX3_write_206 : decode cX3_write 206 = .ok (.iadd, 1) := by decide +kernel
theorem dX3_write_207 : decode cX3_write 207 = .ok (.goto 7, 3) := by decide +kernel
theorem dX3_write_210 : decode cX3_write 210 = .ok (.aload_n 0, 1) := by decide +kernel
theorem dX3_write_211 : decode cX3_write 211 = .ok (.getfield 75, 3) := by decide +kernel
theorem dX3_write_214 : decode cX3_write 214 = .ok (.putfield 75, 3) := by decide +kernel
theorem dX3_write_217 : decode cX3_write 217 = .ok (.aload_n 0, 1) := by decide +kernel
theorem dX3_write_218 : decode cX3_write 218 = .ok (.getfield 23, 3) := by decide +kernel
theorem dX3_write_221 : decode cX3_write 221 = .ok (.iload 6, 2) := by decide +kernel
theorem dX3_write_223 : decode cX3_write 223 = .ok (.iconst 0, 1) := by decide +kernel
theorem dX3_write_224 : decode cX3_write 224 = .ok (.bastore, 1) := by decide +kernel
theorem dX3_write_225 : decode cX3_write 225 = .ok (.aload_n 0, 1) := by decide +kernel
theorem dX3_write_226 : decode cX3_write 226 = .ok (.getfield 26, 3) := by decide +kernel
theorem dX3_write_229 : decode cX3_write 229 = .ok (.iconst 4, 1) := by decide +kernel
theorem dX3_write_230 : decode cX3_write 230 = .ok (.aload_n 0, 1) := by decide +kernel
theorem dX3_write_231 : decode cX3_write 231 = .ok (.getfield 13, 3) := by decide +kernel
theorem dX3_write_234 : decode cX3_write 234 = .ok (.iload 6, 2) := by decide +kernel
theorem dX3_write_236 : decode cX3_write 236 = .ok (.iaload, 1) := by decide +kernel
theorem dX3_write_237 : decode cX3_write 237 = .ok (.iconst 1, 1) := by decide +kernel
theorem dX3_write_238 : decode cX3_write 238 = .ok (.isub, 1) := by decide +kernel
theorem dX3_write_239 : decode cX3_write 239 = .ok (.imul, 1) := by decide +kernel
theorem dX3_write_240 : decode cX3_write 240 = .ok (.iload_n 2, 1) := by decide +kernel
theorem dX3_write_241 : decode cX3_write 241 = .ok (.iconst 4, 1) := by decide +kernel
theorem dX3_write_242 : decode cX3_write 242 = .ok (.irem, 1) := by decide +kernel
theorem dX3_write_243 : decode cX3_write 243 = .ok (.iadd, 1) := by decide +kernel
theorem dX3_write_244 : decode cX3_write 244 = .ok (.iload_n 3, 1) := by decide +kernel
theorem dX3_write_245 : decode cX3_write 245 = .ok (.iastore, 1) := by decide +kernel
theorem dX3_write_246 : decode cX3_write 246 = .ok (.iload 9, 2) := by decide +kernel
theorem dX3_write_248 : decode cX3_write 248 = .ok (.ireturn, 1) := by decide +kernel
theorem dX3_read_0 : decode cX3_read 0 = .ok (.iload_n 2, 1) := by decide +kernel
theorem dX3_read_1 : decode cX3_read 1 = .ok (.invokestatic 68, 3) := by decide +kernel
theorem dX3_read_4 : decode cX3_read 4 = .ok (.istore_n 3, 1) := by decide +kernel
theorem dX3_read_5 : decode cX3_read 5 = .ok (.aload_n 0, 1) := by decide +kernel
theorem dX3_read_6 : decode cX3_read 6 = .ok (.iload_n 1, 1) := by decide +kernel
theorem dX3_read_7 : decode cX3_read 7 = .ok (.iload_n 3, 1) := by decide +kernel
theorem dX3_read_8 : decode cX3_read 8 = .ok (.invokevirtual 65, 3) := by decide +kernel
theorem dX3_read_11 : decode cX3_read 11 = .ok (.ifCond .ge 7, 3) := by decide +kernel
theorem dX3_read_14 : decode cX3_read 14 = .ok (.ldc2_w 78, 3) := by decide +kernel
theorem dX3_read_17 : decode cX3_read 17 = .ok (.lreturn, 1) := by decide +kernel
theorem dX3_read_18 : decode cX3_read 18 = .ok (.aload_n 0, 1) := by decide +kernel
theorem dX3_read_19 : decode cX3_read 19 = .ok (.getfield 26, 3) := by decide +kernel
theorem dX3_read_22 : decode cX3_read 22 = .ok (.iconst 4, 1) := by decide +kernel
theorem dX3_read_23 : decode cX3_read 23 = .ok (.aload_n 0, 1) := by decide +kernel
theorem dX3_read_24 : decode cX3_read 24 = .ok (.getfield 13, 3) := by decide +kernel
theorem dX3_read_27 : decode cX3_read 27 = .ok (.bipush 64, 2) := by decide +kernel
theorem dX3_read_29 : decode cX3_read 29 = .ok (.iload_n 1, 1) := by decide +kernel
theorem dX3_read_30 : decode cX3_read 30 = .ok (.imul, 1) := by decide +kernel
theorem dX3_read_31 : decode cX3_read 31 = .ok (.iload_n 3, 1) := by decide +kernel
theorem dX3_read_32 : decode cX3_read 32 = .ok (.iadd, 1) := by decide +kernel
theorem dX3_read_33 : decode cX3_read 33 = .ok (.iaload, 1) := by decide +kernel
theorem dX3_read_34 : decode cX3_read 34 = .ok (.iconst 1, 1) := by decide +kernel
theorem dX3_read_35 : decode cX3_read 35 = .ok (.isub, 1) := by decide +kernel
theorem dX3_read_36 : decode cX3_read 36 = .ok (.imul, 1) := by decide +kernel
theorem dX3_read_37 : decode cX3_read 37 = .ok (.iload_n 2, 1) := by decide +kernel
theorem dX3_read_38 : decode cX3_read 38 = .ok (.iconst 4, 1) := by decide +kernel
theorem dX3_read_39 : decode cX3_read 39 = .ok (.irem, 1) := by decide +kernel
theorem dX3_read_40 : decode cX3_read 40 = .ok (.iadd, 1) := by decide +kernel
theorem dX3_read_41 : decode cX3_read 41 = .ok (.iaload, 1) := by decide +kernel
theorem dX3_read_42 : decode cX3_read 42 = .ok (.i2l, 1) := by decide +kernel
theorem dX3_read_43 : decode cX3_read 43 = .ok (.lreturn, 1) := by decide +kernel
theorem dX3_tables_0 : decode cX3_tables 0 = .ok (.aload_n 0, 1) := by decide +kernel
theorem dX3_tables_1 : decode cX3_tables 1 = .ok (.iload_n 1, 1) := by decide +kernel
theorem dX3_tables_2 : decode cX3_tables 2 = .ok (.invokevirtual 47, 3) := by decide +kernel
theorem dX3_tables_5 : decode cX3_tables 5 = .ok (.ifCond .eq 7, 3) := by decide +kernel
theorem dX3_tables_8 : decode cX3_tables 8 = .ok (.iconst (-1), 1) := by decide +kernel
theorem dX3_tables_9 : decode cX3_tables 9 = .ok (.goto 8, 3) := by decide +kernel
theorem dX3_tables_12 : decode cX3_tables 12 = .ok (.aload_n 0, 1) := by decide +kernel
theorem dX3_tables_13 : decode cX3_tables 13 = .ok (.iload_n 1, 1) := by decide +kernel
theorem dX3_tables_14 : decode cX3_tables 14 = .ok (.invokevirtual 37, 3) := by decide +kernel
theorem dX3_tables_17 : decode cX3_tables 17 = .ok (.ireturn, 1) := by decide +kernel
theorem dX3_pages_0 : decode cX3_pages 0 = .ok (.aload_n 0, 1) := by decide +kernel
theorem dX3_pages_1 : decode cX3_pages 1 = .ok (.iload_n 1, 1) := by decide +kernel
theorem dX3_pages_2 : decode cX3_pages 2 = .ok (.invokevirtual 47, 3) := by decide +kernel
theorem dX3_pages_5 : decode cX3_pages 5 = .ok (.ifCond .eq 5, 3) := by decide +kernel
theorem dX3_pages_8 : decode cX3_pages 8 = .ok (.iconst (-1), 1) := by decide +kernel
theorem dX3_pages_9 : decode cX3_pages 9 = .ok (.ireturn, 1) := by decide +kernel
theorem dX3_pages_10 : decode cX3_pages 10 = .ok (.iconst 0, 1) := by decide +kernel
theorem dX3_pages_11 : decode cX3_pages 11 = .ok (.istore_n 2, 1) := by decide +kernel
theorem dX3_pages_12 : decode cX3_pages 12 = .ok (.iconst 0, 1) := by decide +kernel
theorem dX3_pages_13 : decode cX3_pages 13 = .ok (.istore_n 3, 1) := by decide +kernel
theorem dX3_pages_14 : decode cX3_pages 14 = .ok (.iload_n 3, 1) := by decide +kernel
theorem dX3_pages_15 : decode cX3_pages 15 = .ok (.bipush 64, 2) := by decide +kernel
theorem dX3_pages_17 : decode cX3_pages 17 = .ok (.if_icmp .ge 31, 3) := by decide +kernel
theorem dX3_pages_20 : decode cX3_pages 20 = .ok (.aload_n 0, 1) := by decide +kernel
theorem dX3_pages_21 : decode cX3_pages 21 = .ok (.getfield 13, 3) := by decide +kernel
theorem dX3_pages_24 : decode cX3_pages 24 = .ok (.bipush 64, 2) := by decide +kernel
theorem dX3_pages_26 : decode cX3_pages 26 = .ok (.iload_n 1, 1) := by decide +kernel
theorem dX3_pages_27 : decode cX3_pages 27 = .ok (.imul, 1) := by decide +kernel
theorem dX3_pages_28 : decode cX3_pages 28 = .ok (.iload_n 3, 1) := by decide +kernel
theorem dX3_pages_29 : decode cX3_pages 29 = .ok (.iadd, 1) := by decide +kernel
theorem dX3_pages_30 : decode cX3_pages 30 = .ok (.iaload, 1) := by decide +kernel
theorem dX3_pages_31 : decode cX3_pages 31 = .ok (.ifCond .le 9, 3) := by decide +kernel
theorem dX3_pages_34 : decode cX3_pages 34 = .ok (.iload_n 2, 1) := by decide +kernel
theorem dX3_pages_35 : decode cX3_pages 35 = .ok (.iconst 1, 1) := by decide +kernel
theorem dX3_pages_36 : decode cX3_pages 36 = .ok (.iadd, 1) := by decide +kernel
theorem dX3_pages_37 : decode cX3_pages 37 = .ok (.goto 4, 3) := by decide +kernel
theorem dX3_pages_40 : decode cX3_pages 40 = .ok (.iload_n 2, 1) := by decide +kernel
theorem dX3_pages_41 : decode cX3_pages 41 = .ok (.istore_n 2, 1) := by decide +kernel
theorem dX3_pages_42 : decode cX3_pages 42 = .ok (.iinc 3 1, 3) := by decide +kernel
theorem dX3_pages_45 : decode cX3_pages 45 = .ok (.goto (-31), 3) := by decide +kernel
theorem dX3_pages_48 : decode cX3_pages 48 = .ok (.iload_n 2, 1) := by decide +kernel
theorem dX3_pages_49 : decode cX3_pages 49 = .ok (.ireturn, 1) := by decide +kernel
theorem dX3_count_0 : decode cX3_count 0 = .ok (.aload_n 0, 1) := by decide +kernel
theorem dX3_count_1 : decode cX3_count 1 = .ok (.iload_n 1, 1) := by decide +kernel
theorem dX3_count_2 : decode cX3_count 2 = .ok (.iload_n 2, 1) := by decide +kernel
theorem dX3_count_3 : decode cX3_count 3 = .ok (.invokevirtual 65, 3) := by decide +kernel
theorem dX3_count_6 : decode cX3_count 6 = .ok (.istore_n 3, 1) := by decide +kernel
theorem dX3_count_7 : decode cX3_count 7 = .ok (.iload_n 3, 1) := by decide +kernel
theorem dX3_count_8 : decode cX3_count 8 = .ok (.ifCond .ge 7, 3) := by decide +kernel
theorem dX3_count_11 : decode cX3_count 11 = .ok (.iload_n 3, 1) := by decide +kernel
theorem dX3_count_12 : decode cX3_count 12 = .ok (.goto 20, 3) := by decide +kernel
theorem dX3_count_15 : decode cX3_count 15 = .ok (.aload_n 0, 1) := by decide +kernel
theorem dX3_count_16 : decode cX3_count 16 = .ok (.aload_n 0, 1) := by decide +kernel
theorem dX3_count_17 : decode cX3_count 17 = .ok (.getfield 13, 3) := by decide +kernel
theorem dX3_count_20 : decode cX3_count 20 = .ok (.bipush 64, 2) := by decide +kernel
theorem dX3_count_22 : decode cX3_count 22 = .ok (.iload_n 1, 1) := by decide +kernel
theorem dX3_count_23 : decode cX3_count 23 = .ok (.imul, 1) := by decide +kernel
theorem dX3_count_24 : decode cX3_count 24 = .ok (.iload_n 2, 1) := by decide +kernel
theorem dX3_count_25 : decode cX3_count 25 = .ok (.iadd, 1) := by decide +kernel
theorem dX3_count_26 : decode cX3_count 26 = .ok (.iaload, 1) := by decide +kernel
theorem dX3_count_27 : decode cX3_count 27 = .ok (.iconst 1, 1) := by decide +kernel
theorem dX3_count_28 : decode cX3_count 28 = .ok (.isub, 1) := by decide +kernel
theorem dX3_count_29 : decode cX3_count 29 = .ok (.invokevirtual 33, 3) := by decide +kernel
theorem dX3_count_32 : decode cX3_count 32 = .ok (.ireturn, 1) := by decide +kernel
theorem dX3_mapping_0 : decode cX3_mapping 0 = .ok (.aload_n 0, 1) := by decide +kernel
theorem dX3_mapping_1 : decode cX3_mapping 1 = .ok (.iload_n 1, 1) := by decide +kernel
theorem dX3_mapping_2 : decode cX3_mapping 2 = .ok (.iload_n 2, 1) := by decide +kernel
theorem dX3_mapping_3 : decode cX3_mapping 3 = .ok (.invokevirtual 65, 3) := by decide +kernel
theorem dX3_mapping_6 : decode cX3_mapping 6 = .ok (.istore_n 3, 1) := by decide +kernel
theorem dX3_mapping_7 : decode cX3_mapping 7 = .ok (.iload_n 3, 1) := by decide +kernel
theorem dX3_mapping_8 : decode cX3_mapping 8 = .ok (.ifCond .ge 5, 3) := by decide +kernel
theorem dX3_mapping_11 : decode cX3_mapping 11 = .ok (.iload_n 3, 1) := by decide +kernel
theorem dX3_mapping_12 : decode cX3_mapping 12 = .ok (.ireturn, 1) := by decide +kernel
theorem dX3_mapping_13 : decode cX3_mapping 13 = .ok (.bipush 64, 2) := by decide +kernel
theorem dX3_mapping_15 : decode cX3_mapping 15 = .ok (.iload_n 1, 1) := by decide +kernel
theorem dX3_mapping_16 : decode cX3_mapping 16 = .ok (.imul, 1) := by decide +kernel
theorem dX3_mapping_17 : decode cX3_mapping 17 = .ok (.iload_n 2, 1) := by decide +kernel
theorem dX3_mapping_18 : decode cX3_mapping 18 = .ok (.iadd, 1) := by decide +kernel
theorem dX3_mapping_19 : decode cX3_mapping 19 = .ok (.istore 4, 2) := by decide +kernel
theorem dX3_mapping_21 : decode cX3_mapping 21 = .ok (.aload_n 0, 1) := by decide +kernel
theorem dX3_mapping_22 : decode cX3_mapping 22 = .ok (.getfield 20, 3) := by decide +kernel
theorem dX3_mapping_25 : decode cX3_mapping 25 = .ok (.iload 4, 2) := by decide +kernel
theorem dX3_mapping_27 : decode cX3_mapping 27 = .ok (.baload, 1) := by decide +kernel
theorem dX3_mapping_28 : decode cX3_mapping 28 = .ok (.ifCond .eq 7, 3) := by decide +kernel
theorem dX3_mapping_31 : decode cX3_mapping 31 = .ok (.iconst 1, 1) := by decide +kernel
theorem dX3_mapping_32 : decode cX3_mapping 32 = .ok (.goto 4, 3) := by decide +kernel
theorem dX3_mapping_35 : decode cX3_mapping 35 = .ok (.iconst 0, 1) := by decide +kernel
theorem dX3_mapping_36 : decode cX3_mapping 36 = .ok (.aload_n 0, 1) := by decide +kernel
theorem dX3_mapping_37 : decode cX3_mapping 37 = .ok (.getfield 17, 3) := by decide +kernel
theorem dX3_mapping_40 : decode cX3_mapping 40 = .ok (.iload 4, 2) := by decide +kernel
theorem dX3_mapping_42 : decode cX3_mapping 42 = .ok (.baload, 1) := by decide +kernel
theorem dX3_mapping_43 : decode cX3_mapping 43 = .ok (.ifCond .eq 7, 3) := by decide +kernel
theorem dX3_mapping_46 : decode cX3_mapping 46 = .ok (.iconst 2, 1) := by decide +kernel
theorem dX3_mapping_47 : decode cX3_mapping 47 = .ok (.goto 4, 3) := by decide +kernel
theorem dX3_mapping_50 : decode cX3_mapping 50 = .ok (.iconst 0, 1) := by decide +kernel
theorem dX3_mapping_51 : decode cX3_mapping 51 = .ok (.iadd, 1) := by decide +kernel
theorem dX3_mapping_52 : decode cX3_mapping 52 = .ok (.aload_n 0, 1) := by decide +kernel
theorem dX3_mapping_53 : decode cX3_mapping 53 = .ok (.getfield 23, 3) := by decide +kernel
theorem dX3_mapping_56 : decode cX3_mapping 56 = .ok (.iload 4, 2) := by decide +kernel
theorem dX3_mapping_58 : decode cX3_mapping 58 = .ok (.baload, 1) := by decide +kernel
theorem dX3_mapping_59 : decode cX3_mapping 59 = .ok (.ifCond .eq 7, 3) := by decide +kernel
theorem dX3_mapping_62 : decode cX3_mapping 62 = .ok (.iconst 4, 1) := by decide +kernel
theorem dX3_mapping_63 : decode cX3_mapping 63 = .ok (.goto 4, 3) := by decide +kernel
theorem dX3_mapping_66 : decode cX3_mapping 66 = .ok (.iconst 0, 1) := by decide +kernel
theorem dX3_mapping_67 : decode cX3_mapping 67 = .ok (.iadd, 1) := by decide +kernel
theorem dX3_mapping_68 : decode cX3_mapping 68 = .ok (.ireturn, 1) := by decide +kernel
theorem dX3_twin_0 : decode cX3_twin 0 = .ok (.aload_n 0, 1) := by decide +kernel
theorem dX3_twin_1 : decode cX3_twin 1 = .ok (.iload_n 1, 1) := by decide +kernel
theorem dX3_twin_2 : decode cX3_twin 2 = .ok (.invokevirtual 47, 3) := by decide +kernel
theorem dX3_twin_5 : decode cX3_twin 5 = .ok (.ifCond .ne 11, 3) := by decide +kernel
theorem dX3_twin_8 : decode cX3_twin 8 = .ok (.aload_n 0, 1) := by decide +kernel
theorem dX3_twin_9 : decode cX3_twin 9 = .ok (.iload_n 3, 1) := by decide +kernel
theorem dX3_twin_10 : decode cX3_twin 10 = .ok (.invokevirtual 47, 3) := by decide +kernel
theorem dX3_twin_13 : decode cX3_twin 13 = .ok (.ifCond .eq 5, 3) := by decide +kernel
theorem dX3_twin_16 : decode cX3_twin 16 = .ok (.iconst (-1), 1) := by decide +kernel
theorem dX3_twin_17 : decode cX3_twin 17 = .ok (.ireturn, 1) := by decide +kernel
theorem dX3_twin_18 : decode cX3_twin 18 = .ok (.aload_n 0, 1) := by decide +kernel
theorem dX3_twin_19 : decode cX3_twin 19 = .ok (.iload_n 1, 1) := by decide +kernel
theorem dX3_twin_20 : decode cX3_twin 20 = .ok (.iload_n 2, 1) := by decide +kernel
theorem dX3_twin_21 : decode cX3_twin 21 = .ok (.invokevirtual 65, 3) := by decide +kernel
theorem dX3_twin_24 : decode cX3_twin 24 = .ok (.istore 5, 2) := by decide +kernel
theorem dX3_twin_26 : decode cX3_twin 26 = .ok (.iload 5, 2) := by decide +kernel
theorem dX3_twin_28 : decode cX3_twin 28 = .ok (.ifCond .ge 6, 3) := by decide +kernel
theorem dX3_twin_31 : decode cX3_twin 31 = .ok (.iload 5, 2) := by decide +kernel
theorem dX3_twin_33 : decode cX3_twin 33 = .ok (.ireturn, 1) := by decide +kernel
theorem dX3_twin_34 : decode cX3_twin 34 = .ok (.bipush 64, 2) := by decide +kernel
theorem dX3_twin_36 : decode cX3_twin 36 = .ok (.istore 6, 2) := by decide +kernel
theorem dX3_twin_38 : decode cX3_twin 38 = .ok (.bipush 63, 2) := by decide +kernel
theorem dX3_twin_40 : decode cX3_twin 40 = .ok (.istore 7, 2) := by decide +kernel
theorem dX3_twin_42 : decode cX3_twin 42 = .ok (.iload 7, 2) := by decide +kernel
theorem dX3_twin_44 : decode cX3_twin 44 = .ok (.ifCond .lt 51, 3) := by decide +kernel
theorem dX3_twin_47 : decode cX3_twin 47 = .ok (.iload 7, 2) := by decide +kernel
theorem dX3_twin_49 : decode cX3_twin 49 = .ok (.iload 4, 2) := by decide +kernel
theorem dX3_twin_51 : decode cX3_twin 51 = .ok (.if_icmp .le 44, 3) := by decide +kernel
theorem dX3_twin_54 : decode cX3_twin 54 = .ok (.aload_n 0, 1) := by decide +kernel
theorem dX3_twin_55 : decode cX3_twin 55 = .ok (.getfield 13, 3) := by decide +kernel
theorem dX3_twin_58 : decode cX3_twin 58 = .ok (.bipush 64, 2) := by decide +kernel
theorem dX3_twin_60 : decode cX3_twin 60 = .ok (.iload_n 3, 1) := by decide +kernel
theorem dX3_twin_61 : decode cX3_twin 61 = .ok (.imul, 1) := by decide +kernel
theorem dX3_twin_62 : decode cX3_twin 62 = .ok (.iload 7, 2) := by decide +kernel
theorem dX3_twin_64 : decode cX3_twin 64 = .ok (.iadd, 1) := by decide +kernel
theorem dX3_twin_65 : decode cX3_twin 65 = .ok (.iaload, 1) := by decide +kernel
theorem dX3_twin_66 : decode cX3_twin 66 = .ok (.aload_n 0, 1) := by decide +kernel
theorem dX3_twin_67 : decode cX3_twin 67 = .ok (.getfield 13, 3) := by decide +kernel
theorem dX3_twin_70 : decode cX3_twin 70 = .ok (.bipush 64, 2) := by decide +kernel
theorem dX3_twin_72 : decode cX3_twin 72 = .ok (.iload_n 1, 1) := by decide +kernel
theorem dX3_twin_73 : decode cX3_twin 73 = .ok (.imul, 1) := by decide +kernel
theorem dX3_twin_74 : decode cX3_twin 74 = .ok (.iload_n 2, 1) := by decide +kernel
theorem dX3_twin_75 : decode cX3_twin 75 = .ok (.iadd, 1) := by decide +kernel
theorem dX3_twin_76 : decode cX3_twin 76 = .ok (.iaload, 1) := by decide +kernel
theorem dX3_twin_77 : decode cX3_twin 77 = .ok (.if_icmp .ne 8, 3) := by decide +kernel
theorem dX3_twin_80 : decode cX3_twin 80 = .ok (.iload 7, 2) := by decide +kernel
theorem dX3_twin_82 : decode cX3_twin 82 = .ok (.goto 5, 3) := by decide +kernel
theorem dX3_twin_85 : decode cX3_twin 85 = .ok (.iload 6, 2) := by decide +kernel
theorem dX3_twin_87 : decode cX3_twin 87 = .ok (.istore 6, 2) := by decide +kernel
theorem dX3_twin_89 : decode cX3_twin 89 = .ok (.iinc 7 (-1), 3) := by decide +kernel
theorem dX3_twin_92 : decode cX3_twin 92 = .ok (.goto (-50), 3) := by decide +kernel
theorem dX3_twin_95 : decode cX3_twin 95 = .ok (.iload 6, 2) := by decide +kernel
theorem dX3_twin_97 : decode cX3_twin 97 = .ok (.ireturn, 1) := by decide +kernel
theorem dX3_running_0 : decode cX3_running 0 = .ok (.iconst 0, 1) := by decide +kernel
theorem dX3_running_1 : decode cX3_running 1 = .ok (.istore_n 1, 1) := by decide +kernel
theorem dX3_running_2 : decode cX3_running 2 = .ok (.iconst 0, 1) := by decide +kernel
theorem dX3_running_3 : decode cX3_running 3 = .ok (.istore_n 2, 1) := by decide +kernel
theorem dX3_running_4 : decode cX3_running 4 = .ok (.iload_n 2, 1) := by decide +kernel
theorem dX3_running_5 : decode cX3_running 5 = .ok (.iconst 5, 1) := by decide +kernel
theorem dX3_running_6 : decode cX3_running 6 = .ok (.if_icmp .ge 28, 3) := by decide +kernel
theorem dX3_running_9 : decode cX3_running 9 = .ok (.aload_n 0, 1) := by decide +kernel
theorem dX3_running_10 : decode cX3_running 10 = .ok (.getfield 7, 3) := by decide +kernel
theorem dX3_running_13 : decode cX3_running 13 = .ok (.iload_n 2, 1) := by decide +kernel
theorem dX3_running_14 : decode cX3_running 14 = .ok (.baload, 1) := by decide +kernel
theorem dX3_running_15 : decode cX3_running 15 = .ok (.ifCond .eq 11, 3) := by decide +kernel
theorem dX3_running_18 : decode cX3_running 18 = .ok (.iload_n 1, 1) := by decide +kernel
theorem dX3_running_19 : decode cX3_running 19 = .ok (.iconst 1, 1) := by decide +kernel
theorem dX3_running_20 : decode cX3_running 20 = .ok (.iload_n 2, 1) := by decide +kernel
theorem dX3_running_21 : decode cX3_running 21 = .ok (.ishl, 1) := by decide +kernel
theorem dX3_running_22 : decode cX3_running 22 = .ok (.iadd, 1) := by decide +kernel
theorem dX3_running_23 : decode cX3_running 23 = .ok (.goto 4, 3) := by decide +kernel
theorem dX3_running_26 : decode cX3_running 26 = .ok (.iload_n 1, 1) := by decide +kernel
theorem dX3_running_27 : decode cX3_running 27 = .ok (.istore_n 1, 1) := by decide +kernel
theorem dX3_running_28 : decode cX3_running 28 = .ok (.iinc 2 1, 3) := by decide +kernel
theorem dX3_running_31 : decode cX3_running 31 = .ok (.goto (-27), 3) := by decide +kernel
theorem dX3_running_34 : decode cX3_running 34 = .ok (.iload_n 1, 1) := by decide +kernel
theorem dX3_running_35 : decode cX3_running 35 = .ok (.ireturn, 1) := by decide +kernel
theorem dX3_faults_0 : decode cX3_faults 0 = .ok (.iload_n 1, 1) := by decide +kernel
theorem dX3_faults_1 : decode cX3_faults 1 = .ok (.ifCond .eq 10, 3) := by decide +kernel
theorem dX3_faults_4 : decode cX3_faults 4 = .ok (.aload_n 0, 1) := by decide +kernel
theorem dX3_faults_5 : decode cX3_faults 5 = .ok (.getfield 71, 3) := by decide +kernel
theorem dX3_faults_8 : decode cX3_faults 8 = .ok (.goto 7, 3) := by decide +kernel
theorem dX3_faults_11 : decode cX3_faults 11 = .ok (.aload_n 0, 1) := by decide +kernel
theorem dX3_faults_12 : decode cX3_faults 12 = .ok (.getfield 75, 3) := by decide +kernel
theorem dX3_faults_15 : decode cX3_faults 15 = .ok (.ireturn, 1) := by decide +kernel
