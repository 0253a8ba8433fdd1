section
-- ===== PART A: goes FIRST, ahead of the names: the tables' words, and 'selects' of the private methods out of them =====
/-- a private method of a class that the tables say can be made, by its rows of tables_1 -/
def lw_okq (q : MethodName × Nat) : Prop := (q.1.cls ≠ "java/lang/invoke/MethodHandle" ∧ q.1.cls ≠ "java/lang/invoke/VarHandle") ∧ Cond.instantiable q.1.cls q.2 ∈ tables_1 ∧ Cond.privateMethod q.1 ∈ tables_1 ∧ Cond.instanceMethod q.1 ∈ tables_1
theorem lw_p0 : lw_okq (⟨"ForkedPages", "leastIdle", "()I"⟩, 4) := ⟨⟨by decide +kernel, by decide +kernel⟩, List.mem_of_getElem? (i := 7) (by decide +kernel), List.mem_of_getElem? (i := 71) (by decide +kernel), List.mem_of_getElem? (i := 72) (by decide +kernel)⟩
theorem lw_p1 : lw_okq (⟨"ForkedPages", "freeFrames", "()I"⟩, 4) := ⟨⟨by decide +kernel, by decide +kernel⟩, List.mem_of_getElem? (i := 7) (by decide +kernel), List.mem_of_getElem? (i := 75) (by decide +kernel), List.mem_of_getElem? (i := 76) (by decide +kernel)⟩
theorem lw_p2 : lw_okq (⟨"ForkedPages$Store", "usedFrames", "()I"⟩, 2) := ⟨⟨by decide +kernel, by decide +kernel⟩, List.mem_of_getElem? (i := 39) (by decide +kernel), List.mem_of_getElem? (i := 79) (by decide +kernel), List.mem_of_getElem? (i := 80) (by decide +kernel)⟩
theorem lw_p3 : lw_okq (⟨"ForkedPages$Space", "tableCount", "()I"⟩, 4) := ⟨⟨by decide +kernel, by decide +kernel⟩, List.mem_of_getElem? (i := 16) (by decide +kernel), List.mem_of_getElem? (i := 83) (by decide +kernel), List.mem_of_getElem? (i := 84) (by decide +kernel)⟩
theorem lw_p4 : lw_okq (⟨"ForkedPages", "isRunning", "(I)Z"⟩, 4) := ⟨⟨by decide +kernel, by decide +kernel⟩, List.mem_of_getElem? (i := 7) (by decide +kernel), List.mem_of_getElem? (i := 98) (by decide +kernel), List.mem_of_getElem? (i := 99) (by decide +kernel)⟩
theorem lw_p5 : lw_okq (⟨"ForkedPages$Space", "has", "(I)Z"⟩, 4) := ⟨⟨by decide +kernel, by decide +kernel⟩, List.mem_of_getElem? (i := 16) (by decide +kernel), List.mem_of_getElem? (i := 102) (by decide +kernel), List.mem_of_getElem? (i := 103) (by decide +kernel)⟩
theorem lw_p6 : lw_okq (⟨"ForkedPages", "sharePage", "(LForkedPages$Space;LForkedPages$Space;I)V"⟩, 4) := ⟨⟨by decide +kernel, by decide +kernel⟩, List.mem_of_getElem? (i := 7) (by decide +kernel), List.mem_of_getElem? (i := 106) (by decide +kernel), List.mem_of_getElem? (i := 107) (by decide +kernel)⟩
theorem lw_p7 : lw_okq (⟨"ForkedPages$Space", "is", "(II)Z"⟩, 4) := ⟨⟨by decide +kernel, by decide +kernel⟩, List.mem_of_getElem? (i := 16) (by decide +kernel), List.mem_of_getElem? (i := 110) (by decide +kernel), List.mem_of_getElem? (i := 111) (by decide +kernel)⟩
theorem lw_p8 : lw_okq (⟨"ForkedPages$Space", "turn", "(II)V"⟩, 4) := ⟨⟨by decide +kernel, by decide +kernel⟩, List.mem_of_getElem? (i := 16) (by decide +kernel), List.mem_of_getElem? (i := 114) (by decide +kernel), List.mem_of_getElem? (i := 115) (by decide +kernel)⟩
theorem lw_p9 : lw_okq (⟨"ForkedPages", "startMapping", "(LForkedPages$Space;III)V"⟩, 4) := ⟨⟨by decide +kernel, by decide +kernel⟩, List.mem_of_getElem? (i := 7) (by decide +kernel), List.mem_of_getElem? (i := 118) (by decide +kernel), List.mem_of_getElem? (i := 119) (by decide +kernel)⟩
theorem lw_p10 : lw_okq (⟨"ForkedPages$Space", "set", "(III)V"⟩, 4) := ⟨⟨by decide +kernel, by decide +kernel⟩, List.mem_of_getElem? (i := 16) (by decide +kernel), List.mem_of_getElem? (i := 122) (by decide +kernel), List.mem_of_getElem? (i := 123) (by decide +kernel)⟩
theorem lw_p11 : lw_okq (⟨"ForkedPages", "endMapping", "(LForkedPages$Space;I)V"⟩, 4) := ⟨⟨by decide +kernel, by decide +kernel⟩, List.mem_of_getElem? (i := 7) (by decide +kernel), List.mem_of_getElem? (i := 130) (by decide +kernel), List.mem_of_getElem? (i := 131) (by decide +kernel)⟩
theorem lw_p12 : lw_okq (⟨"ForkedPages$Space", "clear", "(I)V"⟩, 4) := ⟨⟨by decide +kernel, by decide +kernel⟩, List.mem_of_getElem? (i := 16) (by decide +kernel), List.mem_of_getElem? (i := 134) (by decide +kernel), List.mem_of_getElem? (i := 135) (by decide +kernel)⟩
theorem lw_p13 : lw_okq (⟨"ForkedPages$Space", "tablesToAdd", "(I)I"⟩, 4) := ⟨⟨by decide +kernel, by decide +kernel⟩, List.mem_of_getElem? (i := 16) (by decide +kernel), List.mem_of_getElem? (i := 146) (by decide +kernel), List.mem_of_getElem? (i := 147) (by decide +kernel)⟩
theorem lw_p14 : lw_okq (⟨"ForkedPages$Store", "unusedFrame", "()I"⟩, 2) := ⟨⟨by decide +kernel, by decide +kernel⟩, List.mem_of_getElem? (i := 39) (by decide +kernel), List.mem_of_getElem? (i := 150) (by decide +kernel), List.mem_of_getElem? (i := 151) (by decide +kernel)⟩
theorem lw_p15 : lw_okq (⟨"ForkedPages$Store", "blank", "(I)V"⟩, 2) := ⟨⟨by decide +kernel, by decide +kernel⟩, List.mem_of_getElem? (i := 39) (by decide +kernel), List.mem_of_getElem? (i := 154) (by decide +kernel), List.mem_of_getElem? (i := 155) (by decide +kernel)⟩
def lw_privs_1 : List (MethodName × Nat) := [(⟨"ForkedPages", "leastIdle", "()I"⟩, 4), (⟨"ForkedPages", "freeFrames", "()I"⟩, 4), (⟨"ForkedPages$Store", "usedFrames", "()I"⟩, 2), (⟨"ForkedPages$Space", "tableCount", "()I"⟩, 4), (⟨"ForkedPages", "isRunning", "(I)Z"⟩, 4), (⟨"ForkedPages$Space", "has", "(I)Z"⟩, 4), (⟨"ForkedPages", "sharePage", "(LForkedPages$Space;LForkedPages$Space;I)V"⟩, 4), (⟨"ForkedPages$Space", "is", "(II)Z"⟩, 4), (⟨"ForkedPages$Space", "turn", "(II)V"⟩, 4), (⟨"ForkedPages", "startMapping", "(LForkedPages$Space;III)V"⟩, 4), (⟨"ForkedPages$Space", "set", "(III)V"⟩, 4), (⟨"ForkedPages", "endMapping", "(LForkedPages$Space;I)V"⟩, 4), (⟨"ForkedPages$Space", "clear", "(I)V"⟩, 4), (⟨"ForkedPages$Space", "tablesToAdd", "(I)I"⟩, 4), (⟨"ForkedPages$Store", "unusedFrame", "()I"⟩, 2), (⟨"ForkedPages$Store", "blank", "(I)V"⟩, 2)]
theorem lw_r1 : ∀ q ∈ lw_privs_1, lw_okq q := List.forall_mem_cons.mpr ⟨lw_p0, List.forall_mem_cons.mpr ⟨lw_p1, List.forall_mem_cons.mpr ⟨lw_p2, List.forall_mem_cons.mpr ⟨lw_p3, List.forall_mem_cons.mpr ⟨lw_p4, List.forall_mem_cons.mpr ⟨lw_p5, List.forall_mem_cons.mpr ⟨lw_p6, List.forall_mem_cons.mpr ⟨lw_p7, List.forall_mem_cons.mpr ⟨lw_p8, List.forall_mem_cons.mpr ⟨lw_p9, List.forall_mem_cons.mpr ⟨lw_p10, List.forall_mem_cons.mpr ⟨lw_p11, List.forall_mem_cons.mpr ⟨lw_p12, List.forall_mem_cons.mpr ⟨lw_p13, List.forall_mem_cons.mpr ⟨lw_p14, List.forall_mem_cons.mpr ⟨lw_p15, fun _ h => absurd h List.not_mem_nil⟩⟩⟩⟩⟩⟩⟩⟩⟩⟩⟩⟩⟩⟩⟩⟩
theorem lw_p16 : lw_okq (⟨"ForkedPages", "refusalOfMapped", "(II)I"⟩, 4) := ⟨⟨by decide +kernel, by decide +kernel⟩, List.mem_of_getElem? (i := 7) (by decide +kernel), List.mem_of_getElem? (i := 166) (by decide +kernel), List.mem_of_getElem? (i := 167) (by decide +kernel)⟩
theorem lw_p17 : lw_okq (⟨"ForkedPages", "refusalOfAddress", "(II)I"⟩, 4) := ⟨⟨by decide +kernel, by decide +kernel⟩, List.mem_of_getElem? (i := 7) (by decide +kernel), List.mem_of_getElem? (i := 178) (by decide +kernel), List.mem_of_getElem? (i := 179) (by decide +kernel)⟩
theorem lw_p18 : lw_okq (⟨"ForkedPages", "resolveFault", "(LForkedPages$Space;I)I"⟩, 4) := ⟨⟨by decide +kernel, by decide +kernel⟩, List.mem_of_getElem? (i := 7) (by decide +kernel), List.mem_of_getElem? (i := 182) (by decide +kernel), List.mem_of_getElem? (i := 183) (by decide +kernel)⟩
theorem lw_p19 : lw_okq (⟨"ForkedPages$Store", "copy", "(II)V"⟩, 2) := ⟨⟨by decide +kernel, by decide +kernel⟩, List.mem_of_getElem? (i := 39) (by decide +kernel), List.mem_of_getElem? (i := 186) (by decide +kernel), List.mem_of_getElem? (i := 187) (by decide +kernel)⟩
theorem lw_p20 : lw_okq (⟨"ForkedPagesModel", "leads", "(I)I"⟩, 8) := ⟨⟨by decide +kernel, by decide +kernel⟩, List.mem_of_getElem? (i := 233) (by decide +kernel), List.mem_of_getElem? (i := 269) (by decide +kernel), List.mem_of_getElem? (i := 270) (by decide +kernel)⟩
theorem lw_p21 : lw_okq (⟨"ForkedPagesModel", "tablesOf", "(I)I"⟩, 8) := ⟨⟨by decide +kernel, by decide +kernel⟩, List.mem_of_getElem? (i := 233) (by decide +kernel), List.mem_of_getElem? (i := 273) (by decide +kernel), List.mem_of_getElem? (i := 274) (by decide +kernel)⟩
theorem lw_p22 : lw_okq (⟨"ForkedPagesModel", "some", "(III)Z"⟩, 8) := ⟨⟨by decide +kernel, by decide +kernel⟩, List.mem_of_getElem? (i := 233) (by decide +kernel), List.mem_of_getElem? (i := 277) (by decide +kernel), List.mem_of_getElem? (i := 278) (by decide +kernel)⟩
theorem lw_p23 : lw_okq (⟨"ForkedPagesModel", "idle", "()I"⟩, 8) := ⟨⟨by decide +kernel, by decide +kernel⟩, List.mem_of_getElem? (i := 233) (by decide +kernel), List.mem_of_getElem? (i := 285) (by decide +kernel), List.mem_of_getElem? (i := 286) (by decide +kernel)⟩
theorem lw_p24 : lw_okq (⟨"ForkedPagesModel", "away", "(I)Z"⟩, 8) := ⟨⟨by decide +kernel, by decide +kernel⟩, List.mem_of_getElem? (i := 233) (by decide +kernel), List.mem_of_getElem? (i := 294) (by decide +kernel), List.mem_of_getElem? (i := 295) (by decide +kernel)⟩
theorem lw_p25 : lw_okq (⟨"ForkedPagesModel", "clear", "(I)V"⟩, 8) := ⟨⟨by decide +kernel, by decide +kernel⟩, List.mem_of_getElem? (i := 233) (by decide +kernel), List.mem_of_getElem? (i := 302) (by decide +kernel), List.mem_of_getElem? (i := 303) (by decide +kernel)⟩
theorem lw_p26 : lw_okq (⟨"ForkedPagesModel", "more", "(II)I"⟩, 8) := ⟨⟨by decide +kernel, by decide +kernel⟩, List.mem_of_getElem? (i := 233) (by decide +kernel), List.mem_of_getElem? (i := 313) (by decide +kernel), List.mem_of_getElem? (i := 314) (by decide +kernel)⟩
theorem lw_p27 : lw_okq (⟨"ForkedPagesModel", "unused", "()I"⟩, 8) := ⟨⟨by decide +kernel, by decide +kernel⟩, List.mem_of_getElem? (i := 233) (by decide +kernel), List.mem_of_getElem? (i := 317) (by decide +kernel), List.mem_of_getElem? (i := 318) (by decide +kernel)⟩
theorem lw_p28 : lw_okq (⟨"ForkedPagesModel", "bar", "(II)I"⟩, 8) := ⟨⟨by decide +kernel, by decide +kernel⟩, List.mem_of_getElem? (i := 233) (by decide +kernel), List.mem_of_getElem? (i := 329) (by decide +kernel), List.mem_of_getElem? (i := 330) (by decide +kernel)⟩
def lw_privs_2 : List (MethodName × Nat) := [(⟨"ForkedPages", "refusalOfMapped", "(II)I"⟩, 4), (⟨"ForkedPages", "refusalOfAddress", "(II)I"⟩, 4), (⟨"ForkedPages", "resolveFault", "(LForkedPages$Space;I)I"⟩, 4), (⟨"ForkedPages$Store", "copy", "(II)V"⟩, 2), (⟨"ForkedPagesModel", "leads", "(I)I"⟩, 8), (⟨"ForkedPagesModel", "tablesOf", "(I)I"⟩, 8), (⟨"ForkedPagesModel", "some", "(III)Z"⟩, 8), (⟨"ForkedPagesModel", "idle", "()I"⟩, 8), (⟨"ForkedPagesModel", "away", "(I)Z"⟩, 8), (⟨"ForkedPagesModel", "clear", "(I)V"⟩, 8), (⟨"ForkedPagesModel", "more", "(II)I"⟩, 8), (⟨"ForkedPagesModel", "unused", "()I"⟩, 8), (⟨"ForkedPagesModel", "bar", "(II)I"⟩, 8)]
theorem lw_r2 : ∀ q ∈ lw_privs_2, lw_okq q := List.forall_mem_cons.mpr ⟨lw_p16, List.forall_mem_cons.mpr ⟨lw_p17, List.forall_mem_cons.mpr ⟨lw_p18, List.forall_mem_cons.mpr ⟨lw_p19, List.forall_mem_cons.mpr ⟨lw_p20, List.forall_mem_cons.mpr ⟨lw_p21, List.forall_mem_cons.mpr ⟨lw_p22, List.forall_mem_cons.mpr ⟨lw_p23, List.forall_mem_cons.mpr ⟨lw_p24, List.forall_mem_cons.mpr ⟨lw_p25, List.forall_mem_cons.mpr ⟨lw_p26, List.forall_mem_cons.mpr ⟨lw_p27, List.forall_mem_cons.mpr ⟨lw_p28, fun _ h => absurd h List.not_mem_nil⟩⟩⟩⟩⟩⟩⟩⟩⟩⟩⟩⟩⟩
def lw_privs : List (MethodName × Nat) := lw_privs_1 ++ (lw_privs_2)
def lw_tbl : List Cond := k2_sels lw_privs ++ tables_1
theorem lw_privs_ok : ∀ q ∈ lw_privs, lw_okq q := by
  show ∀ q ∈ lw_privs_1 ++ (lw_privs_2), lw_okq q
  exact List.forall_mem_append.mpr ⟨lw_r1, lw_r2⟩
-- ===== end of PART A; then your names; then what follows =====
end
section
def RX0 : String := "ForkedPages$Space"
def TX0 : u_T := fun k => match k with
  | 0 => ("ForkedPages$Space", "runs", "Z", false)
  | 1 => ("ForkedPages$Space", "mapped", "J", false)
  | 2 => ("ForkedPages$Space", "frames", "[I", true)
  | _ => ("ForkedPages$Space", "kinds", "[I", true)
def tyX0 : Nat → FieldType := fun k => match k with
  | 0 => .boolean
  | 1 => .long
  | 2 => .array .int
  | _ => .array .int
theorem nmX0 : ∀ a, a < 4 → ∀ b, b < 4 → a ≠ b → (TX0 a).2.1 ≠ (TX0 b).2.1 := by decide +kernel
theorem tyX0_ok : ∀ k, k < 4 → parseFieldDescriptor (TX0 k).2.2.1 = some (tyX0 k) := by decide +kernel
abbrev cX0_init : ByteArray := prog_2_method_1_code
def yX0_init : MethodName := ⟨RX0, "<init>", "()V"⟩
abbrev cX0_has : ByteArray := prog_2_method_2_code
def yX0_has : MethodName := ⟨RX0, "has", "(I)Z"⟩
abbrev cX0_is : ByteArray := prog_2_method_3_code
def yX0_is : MethodName := ⟨RX0, "is", "(II)Z"⟩
abbrev cX0_turn : ByteArray := prog_2_method_4_code
def yX0_turn : MethodName := ⟨RX0, "turn", "(II)V"⟩
abbrev cX0_set : ByteArray := prog_2_method_5_code
def yX0_set : MethodName := ⟨RX0, "set", "(III)V"⟩
abbrev cX0_clear : ByteArray := prog_2_method_6_code
def yX0_clear : MethodName := ⟨RX0, "clear", "(I)V"⟩
abbrev cX0_tableCount : ByteArray := prog_2_method_7_code
def yX0_tableCount : MethodName := ⟨RX0, "tableCount", "()I"⟩
abbrev cX0_tablesToAdd : ByteArray := prog_2_method_8_code
def yX0_tablesToAdd : MethodName := ⟨RX0, "tablesToAdd", "(I)I"⟩
abbrev cX0_tablesFor : ByteArray := prog_2_method_9_code
def yX0_tablesFor : MethodName := ⟨RX0, "tablesFor", "(J)I"⟩
abbrev cX0_spansUsed : ByteArray := prog_2_method_10_code
def yX0_spansUsed : MethodName := ⟨RX0, "spansUsed", "(JII)I"⟩
def RX1 : String := "ForkedPages$Store"
def TX1 : u_T := fun k => match k with
  | 0 => ("ForkedPages$Store", "words", "[I", true)
  | _ => ("ForkedPages$Store", "counts", "[I", true)
def tyX1 : Nat → FieldType := fun k => match k with
  | 0 => .array .int
  | _ => .array .int
theorem nmX1 : ∀ a, a < 2 → ∀ b, b < 2 → a ≠ b → (TX1 a).2.1 ≠ (TX1 b).2.1 := by decide +kernel
theorem tyX1_ok : ∀ k, k < 2 → parseFieldDescriptor (TX1 k).2.2.1 = some (tyX1 k) := by decide +kernel
abbrev cX1_init : ByteArray := prog_3_method_1_code
def yX1_init : MethodName := ⟨RX1, "<init>", "()V"⟩
abbrev cX1_usedFrames : ByteArray := prog_3_method_2_code
def yX1_usedFrames : MethodName := ⟨RX1, "usedFrames", "()I"⟩
abbrev cX1_unusedFrame : ByteArray := prog_3_method_3_code
def yX1_unusedFrame : MethodName := ⟨RX1, "unusedFrame", "()I"⟩
abbrev cX1_blank : ByteArray := prog_3_method_4_code
def yX1_blank : MethodName := ⟨RX1, "blank", "(I)V"⟩
abbrev cX1_copy : ByteArray := prog_3_method_5_code
def yX1_copy : MethodName := ⟨RX1, "copy", "(II)V"⟩
def RX2 : String := "ForkedPages"
def TX2 : u_T := fun k => match k with
  | 0 => ("ForkedPages", "spaces", "[LForkedPages$Space;", true)
  | 1 => ("ForkedPages", "store", "LForkedPages$Store;", true)
  | 2 => ("ForkedPages", "allFaults", "I", false)
  | _ => ("ForkedPages", "copyFaults", "I", false)
def tyX2 : Nat → FieldType := fun k => match k with
  | 0 => .array (.object "ForkedPages$Space")
  | 1 => .object "ForkedPages$Store"
  | 2 => .int
  | _ => .int
theorem nmX2 : ∀ a, a < 4 → ∀ b, b < 4 → a ≠ b → (TX2 a).2.1 ≠ (TX2 b).2.1 := by decide +kernel
theorem tyX2_ok : ∀ k, k < 4 → parseFieldDescriptor (TX2 k).2.2.1 = some (tyX2 k) := by decide +kernel
abbrev cX2_init : ByteArray := prog_1_method_1_code
def yX2_init : MethodName := ⟨RX2, "<init>", "()V"⟩
abbrev cX2_spawn : ByteArray := prog_1_method_2_code
def yX2_spawn : MethodName := ⟨RX2, "spawn", "()I"⟩
abbrev cX2_fork : ByteArray := prog_1_method_3_code
def yX2_fork : MethodName := ⟨RX2, "fork", "(I)I"⟩
abbrev cX2_exit : ByteArray := prog_1_method_4_code
def yX2_exit : MethodName := ⟨RX2, "exit", "(I)I"⟩
abbrev cX2_map : ByteArray := prog_1_method_5_code
def yX2_map : MethodName := ⟨RX2, "map", "(IIZ)I"⟩
abbrev cX2_attach : ByteArray := prog_1_method_6_code
def yX2_attach : MethodName := ⟨RX2, "attach", "(IIII)I"⟩
abbrev cX2_unmap : ByteArray := prog_1_method_7_code
def yX2_unmap : MethodName := ⟨RX2, "unmap", "(II)I"⟩
abbrev cX2_protect : ByteArray := prog_1_method_8_code
def yX2_protect : MethodName := ⟨RX2, "protect", "(IIZ)I"⟩
abbrev cX2_write : ByteArray := prog_1_method_9_code
def yX2_write : MethodName := ⟨RX2, "write", "(III)I"⟩
abbrev cX2_read : ByteArray := prog_1_method_10_code
def yX2_read : MethodName := ⟨RX2, "read", "(II)J"⟩
abbrev cX2_free : ByteArray := prog_1_method_11_code
def yX2_free : MethodName := ⟨RX2, "free", "()I"⟩
abbrev cX2_tables : ByteArray := prog_1_method_12_code
def yX2_tables : MethodName := ⟨RX2, "tables", "(I)I"⟩
abbrev cX2_pages : ByteArray := prog_1_method_13_code
def yX2_pages : MethodName := ⟨RX2, "pages", "(I)I"⟩
abbrev cX2_count : ByteArray := prog_1_method_14_code
def yX2_count : MethodName := ⟨RX2, "count", "(II)I"⟩
abbrev cX2_mapping : ByteArray := prog_1_method_15_code
def yX2_mapping : MethodName := ⟨RX2, "mapping", "(II)I"⟩
abbrev cX2_twin : ByteArray := prog_1_method_16_code
def yX2_twin : MethodName := ⟨RX2, "twin", "(IIII)I"⟩
abbrev cX2_running : ByteArray := prog_1_method_17_code
def yX2_running : MethodName := ⟨RX2, "running", "()I"⟩
abbrev cX2_faults : ByteArray := prog_1_method_18_code
def yX2_faults : MethodName := ⟨RX2, "faults", "(Z)I"⟩
abbrev cX2_isRunning : ByteArray := prog_1_method_19_code
def yX2_isRunning : MethodName := ⟨RX2, "isRunning", "(I)Z"⟩
abbrev cX2_isPage : ByteArray := prog_1_method_20_code
def yX2_isPage : MethodName := ⟨RX2, "isPage", "(I)Z"⟩
abbrev cX2_refusalOfMapped : ByteArray := prog_1_method_21_code
def yX2_refusalOfMapped : MethodName := ⟨RX2, "refusalOfMapped", "(II)I"⟩
abbrev cX2_refusalOfAddress : ByteArray := prog_1_method_22_code
def yX2_refusalOfAddress : MethodName := ⟨RX2, "refusalOfAddress", "(II)I"⟩
abbrev cX2_leastIdle : ByteArray := prog_1_method_23_code
def yX2_leastIdle : MethodName := ⟨RX2, "leastIdle", "()I"⟩
abbrev cX2_freeFrames : ByteArray := prog_1_method_24_code
def yX2_freeFrames : MethodName := ⟨RX2, "freeFrames", "()I"⟩
abbrev cX2_startMapping : ByteArray := prog_1_method_25_code
def yX2_startMapping : MethodName := ⟨RX2, "startMapping", "(LForkedPages$Space;III)V"⟩
abbrev cX2_endMapping : ByteArray := prog_1_method_26_code
def yX2_endMapping : MethodName := ⟨RX2, "endMapping", "(LForkedPages$Space;I)V"⟩
abbrev cX2_sharePage : ByteArray := prog_1_method_27_code
def yX2_sharePage : MethodName := ⟨RX2, "sharePage", "(LForkedPages$Space;LForkedPages$Space;I)V"⟩
abbrev cX2_resolveFault : ByteArray := prog_1_method_28_code
def yX2_resolveFault : MethodName := ⟨RX2, "resolveFault", "(LForkedPages$Space;I)I"⟩
def RJ13 : String := "java/lang/Long"
abbrev cJ13_bitCount_95d88 : ByteArray := prog_6_method_50_code
def yJ13_bitCount_95d88 : MethodName := ⟨RJ13, "bitCount", "(J)I"⟩
def RL : String := "ForkedPagesLaw"
abbrev cL_law : ByteArray := code
def yL_law : MethodName := ⟨RL, "law", "([I)Z"⟩
theorem dX0_init_0 : decode cX0_init 0 = .ok (.aload_n 0, 1) := by decide +kernel
theorem dX0_init_1 : decode cX0_init 1 = .ok (.invokespecial 3, 3) := by decide +kernel
theorem dX0_init_4 : decode cX0_init 4 = .ok (.aload_n 0, 1) := by decide +kernel
theorem dX0_init_5 : decode cX0_init 5 = .ok (.bipush 64, 2) := by decide +kernel
theorem dX0_init_7 : decode cX0_init 7 = .ok (.newarray .int, 2) := by decide +kernel
theorem dX0_init_9 : decode cX0_init 9 = .ok (.putfield 9, 3) := by decide +kernel
theorem dX0_init_12 : decode cX0_init 12 = .ok (.aload_n 0, 1) := by decide +kernel
theorem dX0_init_13 : decode cX0_init 13 = .ok (.bipush 64, 2) := by decide +kernel
theorem dX0_init_15 : decode cX0_init 15 = .ok (.newarray .int, 2) := by decide +kernel
theorem dX0_init_17 : decode cX0_init 17 = .ok (.putfield 15, 3) := by decide +kernel
theorem dX0_init_20 : decode cX0_init 20 = .ok (.return_, 1) := by decide +kernel
theorem dX0_has_0 : decode cX0_has 0 = .ok (.aload_n 0, 1) := by decide +kernel
theorem dX0_has_1 : decode cX0_has 1 = .ok (.getfield 18, 3) := by decide +kernel
theorem dX0_has_4 : decode cX0_has 4 = .ok (.iload_n 1, 1) := by decide +kernel
theorem dX0_has_5 : decode cX0_has 5 = .ok (.lushr, 1) := by decide +kernel
theorem dX0_has_6 : decode cX0_has 6 = .ok (.lconst 1, 1) := by decide +kernel
theorem dX0_has_7 : decode cX0_has 7 = .ok (.land, 1) := by decide +kernel
theorem dX0_has_8 : decode cX0_has 8 = .ok (.lconst 0, 1) := by decide +kernel
theorem dX0_has_9 : decode cX0_has 9 = .ok (.lcmp, 1) := by decide +kernel
theorem dX0_has_10 : decode cX0_has 10 = .ok (.ifCond .eq 7, 3) := by decide +kernel
theorem dX0_has_13 : decode cX0_has 13 = .ok (.iconst 1, 1) := by decide +kernel
theorem dX0_has_14 : decode cX0_has 14 = .ok (.goto 4, 3) := by decide +kernel
theorem dX0_has_17 : decode cX0_has 17 = .ok (.iconst 0, 1) := by decide +kernel
theorem dX0_has_18 : decode cX0_has 18 = .ok (.ireturn, 1) := by decide +kernel
theorem dX0_is_0 : decode cX0_is 0 = .ok (.aload_n 0, 1) := by decide +kernel
theorem dX0_is_1 : decode cX0_is 1 = .ok (.getfield 15, 3) := by decide +kernel
theorem dX0_is_4 : decode cX0_is 4 = .ok (.iload_n 2, 1) := by decide +kernel
theorem dX0_is_5 : decode cX0_is 5 = .ok (.iaload, 1) := by decide +kernel
theorem dX0_is_6 : decode cX0_is 6 = .ok (.iload_n 1, 1) := by decide +kernel
theorem dX0_is_7 : decode cX0_is 7 = .ok (.iand, 1) := by decide +kernel
theorem dX0_is_8 : decode cX0_is 8 = .ok (.ifCond .eq 7, 3) := by decide +kernel
theorem dX0_is_11 : decode cX0_is 11 = .ok (.iconst 1, 1) := by decide +kernel
theorem dX0_is_12 : decode cX0_is 12 = .ok (.goto 4, 3) := by decide +kernel
theorem dX0_is_15 : decode cX0_is 15 = .ok (.iconst 0, 1) := by decide +kernel
theorem dX0_is_16 : decode cX0_is 16 = .ok (.ireturn, 1) := by decide +kernel
theorem dX0_turn_0 : decode cX0_turn 0 = .ok (.aload_n 0, 1) := by decide +kernel
theorem dX0_turn_1 : decode cX0_turn 1 = .ok (.getfield 15, 3) := by decide +kernel
theorem dX0_turn_4 : decode cX0_turn 4 = .ok (.iload_n 2, 1) := by decide +kernel
theorem dX0_turn_5 : decode cX0_turn 5 = .ok (.dup2, 1) := by decide +kernel
theorem dX0_turn_6 : decode cX0_turn 6 = .ok (.iaload, 1) := by decide +kernel
theorem dX0_turn_7 : decode cX0_turn 7 = .ok (.iload_n 1, 1) := by decide +kernel
theorem dX0_turn_8 : decode cX0_turn 8 = .ok (.ixor, 1) := by decide +kernel
theorem dX0_turn_9 : decode cX0_turn 9 = .ok (.iastore, 1) := by decide +kernel
theorem dX0_turn_10 : decode cX0_turn 10 = .ok (.return_, 1) := by decide +kernel
theorem dX0_set_0 : decode cX0_set 0 = .ok (.aload_n 0, 1) := by decide +kernel
theorem dX0_set_1 : decode cX0_set 1 = .ok (.dup, 1) := by decide +kernel
theorem dX0_set_2 : decode cX0_set 2 = .ok (.getfield 18, 3) := by decide +kernel
theorem dX0_set_5 : decode cX0_set 5 = .ok (.lconst 1, 1) := by decide +kernel
theorem dX0_set_6 : decode cX0_set 6 = .ok (.iload_n 1, 1) := by decide +kernel
theorem dX0_set_7 : decode cX0_set 7 = .ok (.lshl, 1) := by decide +kernel
theorem dX0_set_8 : decode cX0_set 8 = .ok (.lor, 1) := by decide +kernel
theorem dX0_set_9 : decode cX0_set 9 = .ok (.putfield 18, 3) := by decide +kernel
theorem dX0_set_12 : decode cX0_set 12 = .ok (.aload_n 0, 1) := by decide +kernel
theorem dX0_set_13 : decode cX0_set 13 = .ok (.getfield 9, 3) := by decide +kernel
theorem dX0_set_16 : decode cX0_set 16 = .ok (.iload_n 1, 1) := by decide +kernel
theorem dX0_set_17 : decode cX0_set 17 = .ok (.iload_n 2, 1) := by decide +kernel
theorem dX0_set_18 : decode cX0_set 18 = .ok (.iastore, 1) := by decide +kernel
theorem dX0_set_19 : decode cX0_set 19 = .ok (.aload_n 0, 1) := by decide +kernel
theorem dX0_set_20 : decode cX0_set 20 = .ok (.getfield 15, 3) := by decide +kernel
theorem dX0_set_23 : decode cX0_set 23 = .ok (.iload_n 1, 1) := by decide +kernel
theorem dX0_set_24 : decode cX0_set 24 = .ok (.iload_n 3, 1) := by decide +kernel
theorem dX0_set_25 : decode cX0_set 25 = .ok (.iastore, 1) := by decide +kernel
theorem dX0_set_26 : decode cX0_set 26 = .ok (.return_, 1) := by decide +kernel
theorem dX0_clear_0 : decode cX0_clear 0 = .ok (.aload_n 0, 1) := by decide +kernel
theorem dX0_clear_1 : decode cX0_clear 1 = .ok (.dup, 1) := by decide +kernel
theorem dX0_clear_2 : decode cX0_clear 2 = .ok (.getfield 18, 3) := by decide +kernel
theorem dX0_clear_5 : decode cX0_clear 5 = .ok (.lconst 1, 1) := by decide +kernel
theorem dX0_clear_6 : decode cX0_clear 6 = .ok (.iload_n 1, 1) := by decide +kernel
theorem dX0_clear_7 : decode cX0_clear 7 = .ok (.lshl, 1) := by decide +kernel
theorem dX0_clear_8 : decode cX0_clear 8 = .ok (.ldc2_w 22, 3) := by decide +kernel
theorem dX0_clear_11 : decode cX0_clear 11 = .ok (.lxor, 1) := by decide +kernel
theorem dX0_clear_12 : decode cX0_clear 12 = .ok (.land, 1) := by decide +kernel
theorem dX0_clear_13 : decode cX0_clear 13 = .ok (.putfield 18, 3) := by decide +kernel
theorem dX0_clear_16 : decode cX0_clear 16 = .ok (.return_, 1) := by decide +kernel
theorem dX0_tableCount_0 : decode cX0_tableCount 0 = .ok (.aload_n 0, 1) := by decide +kernel
theorem dX0_tableCount_1 : decode cX0_tableCount 1 = .ok (.getfield 18, 3) := by decide +kernel
theorem dX0_tableCount_4 : decode cX0_tableCount 4 = .ok (.invokestatic 24, 3) := by decide +kernel
theorem dX0_tableCount_7 : decode cX0_tableCount 7 = .ok (.ireturn, 1) := by decide +kernel
theorem dX0_tablesToAdd_0 : decode cX0_tablesToAdd 0 = .ok (.aload_n 0, 1) := by decide +kernel
theorem dX0_tablesToAdd_1 : decode cX0_tablesToAdd 1 = .ok (.getfield 18, 3) := by decide +kernel
theorem dX0_tablesToAdd_4 : decode cX0_tablesToAdd 4 = .ok (.lconst 1, 1) := by decide +kernel
theorem dX0_tablesToAdd_5 : decode cX0_tablesToAdd 5 = .ok (.iload_n 1, 1) := by decide +kernel
theorem dX0_tablesToAdd_6 : decode cX0_tablesToAdd 6 = .ok (.lshl, 1) := by decide +kernel
theorem dX0_tablesToAdd_7 : decode cX0_tablesToAdd 7 = .ok (.lor, 1) := by decide +kernel
theorem dX0_tablesToAdd_8 : decode cX0_tablesToAdd 8 = .ok (.invokestatic 24, 3) := by decide +kernel
theorem dX0_tablesToAdd_11 : decode cX0_tablesToAdd 11 = .ok (.aload_n 0, 1) := by decide +kernel
theorem dX0_tablesToAdd_12 : decode cX0_tablesToAdd 12 = .ok (.getfield 18, 3) := by decide +kernel
theorem dX0_tablesToAdd_15 : decode cX0_tablesToAdd 15 = .ok (.invokestatic 24, 3) := by decide +kernel
theorem dX0_tablesToAdd_18 : decode cX0_tablesToAdd 18 = .ok (.isub, 1) := by decide +kernel
theorem dX0_tablesToAdd_19 : decode cX0_tablesToAdd 19 = .ok (.ireturn, 1) := by decide +kernel
theorem dX0_tablesFor_0 : decode cX0_tablesFor 0 = .ok (.iconst 1, 1) := by decide +kernel
theorem dX0_tablesFor_1 : decode cX0_tablesFor 1 = .ok (.lload_n 0, 1) := by decide +kernel
theorem dX0_tablesFor_2 : decode cX0_tablesFor 2 = .ok (.iconst 4, 1) := by decide +kernel
theorem dX0_tablesFor_3 : decode cX0_tablesFor 3 = .ok (.bipush 16, 2) := by decide +kernel
theorem dX0_tablesFor_5 : decode cX0_tablesFor 5 = .ok (.invokestatic 28, 3) := by decide +kernel
theorem dX0_tablesFor_8 : decode cX0_tablesFor 8 = .ok (.iadd, 1) := by decide +kernel
theorem dX0_tablesFor_9 : decode cX0_tablesFor 9 = .ok (.lload_n 0, 1) := by decide +kernel
theorem dX0_tablesFor_10 : decode cX0_tablesFor 10 = .ok (.bipush 16, 2) := by decide +kernel
theorem dX0_tablesFor_12 : decode cX0_tablesFor 12 = .ok (.iconst 4, 1) := by decide +kernel
theorem dX0_tablesFor_13 : decode cX0_tablesFor 13 = .ok (.invokestatic 28, 3) := by decide +kernel
theorem dX0_tablesFor_16 : decode cX0_tablesFor 16 = .ok (.iadd, 1) := by decide +kernel
theorem dX0_tablesFor_17 : decode cX0_tablesFor 17 = .ok (.ireturn, 1) := by decide +kernel
theorem dX0_spansUsed_0 : decode cX0_spansUsed 0 = .ok (.lconst 1, 1) := by decide +kernel
theorem dX0_spansUsed_1 : decode cX0_spansUsed 1 = .ok (.iload_n 3, 1) := by decide +kernel
theorem dX0_spansUsed_2 : decode cX0_spansUsed 2 = .ok (.lshl, 1) := by decide +kernel
theorem dX0_spansUsed_3 : decode cX0_spansUsed 3 = .ok (.lconst 1, 1) := by decide +kernel
theorem dX0_spansUsed_4 : decode cX0_spansUsed 4 = .ok (.lsub, 1) := by decide +kernel
theorem dX0_spansUsed_5 : decode cX0_spansUsed 5 = .ok (.lstore 4, 2) := by decide +kernel
theorem dX0_spansUsed_7 : decode cX0_spansUsed 7 = .ok (.iconst 0, 1) := by decide +kernel
theorem dX0_spansUsed_8 : decode cX0_spansUsed 8 = .ok (.istore 6, 2) := by decide +kernel
theorem dX0_spansUsed_10 : decode cX0_spansUsed 10 = .ok (.iconst 0, 1) := by decide +kernel
theorem dX0_spansUsed_11 : decode cX0_spansUsed 11 = .ok (.istore 7, 2) := by decide +kernel
theorem dX0_spansUsed_13 : decode cX0_spansUsed 13 = .ok (.iload 7, 2) := by decide +kernel
theorem dX0_spansUsed_15 : decode cX0_spansUsed 15 = .ok (.iload_n 2, 1) := by decide +kernel
theorem dX0_spansUsed_16 : decode cX0_spansUsed 16 = .ok (.if_icmp .ge 26, 3) := by decide +kernel
theorem dX0_spansUsed_19 : decode cX0_spansUsed 19 = .ok (.lload_n 0, 1) := by decide +kernel
theorem dX0_spansUsed_20 : decode cX0_spansUsed 20 = .ok (.iload 7, 2) := by decide +kernel
theorem dX0_spansUsed_22 : decode cX0_spansUsed 22 = .ok (.iload_n 3, 1) := by decide +kernel
theorem dX0_spansUsed_23 : decode cX0_spansUsed 23 = .ok (.imul, 1) := by decide +kernel
theorem dX0_spansUsed_24 : decode cX0_spansUsed 24 = .ok (.lushr, 1) := by decide +kernel
theorem dX0_spansUsed_25 : decode cX0_spansUsed 25 = .ok (.lload 4, 2) := by decide +kernel
theorem dX0_spansUsed_27 : decode cX0_spansUsed 27 = .ok (.land, 1) := by decide +kernel
theorem dX0_spansUsed_28 : decode cX0_spansUsed 28 = .ok (.lconst 0, 1) := by decide +kernel
theorem dX0_spansUsed_29 : decode cX0_spansUsed 29 = .ok (.lcmp, 1) := by decide +kernel
theorem dX0_spansUsed_30 : decode cX0_spansUsed 30 = .ok (.ifCond .eq 6, 3) := by decide +kernel
theorem dX0_spansUsed_33 : decode cX0_spansUsed 33 = .ok (.iinc 6 1, 3) := by decide +kernel
theorem dX0_spansUsed_36 : decode cX0_spansUsed 36 = .ok (.iinc 7 1, 3) := by decide +kernel
theorem dX0_spansUsed_39 : decode cX0_spansUsed 39 = .ok (.goto (-26), 3) := by decide +kernel
theorem dX0_spansUsed_42 : decode cX0_spansUsed 42 = .ok (.iload 6, 2) := by decide +kernel
theorem dX0_spansUsed_44 : decode cX0_spansUsed 44 = .ok (.ireturn, 1) := by decide +kernel
theorem dX1_init_0 : decode cX1_init 0 = .ok (.aload_n 0, 1) := by decide +kernel
theorem dX1_init_1 : decode cX1_init 1 = .ok (.invokespecial 3, 3) := by decide +kernel
theorem dX1_init_4 : decode cX1_init 4 = .ok (.aload_n 0, 1) := by decide +kernel
theorem dX1_init_5 : decode cX1_init 5 = .ok (.bipush 96, 2) := by decide +kernel
theorem dX1_init_7 : decode cX1_init 7 = .ok (.newarray .int, 2) := by decide +kernel
theorem dX1_init_9 : decode cX1_init 9 = .ok (.putfield 9, 3) := by decide +kernel
theorem dX1_init_12 : decode cX1_init 12 = .ok (.aload_n 0, 1) := by decide +kernel
theorem dX1_init_13 : decode cX1_init 13 = .ok (.bipush 24, 2) := by decide +kernel
theorem dX1_init_15 : decode cX1_init 15 = .ok (.newarray .int, 2) := by decide +kernel
theorem dX1_init_17 : decode cX1_init 17 = .ok (.putfield 15, 3) := by decide +kernel
theorem dX1_init_20 : decode cX1_init 20 = .ok (.return_, 1) := by decide +kernel
theorem dX1_usedFrames_0 : decode cX1_usedFrames 0 = .ok (.iconst 0, 1) := by decide +kernel
theorem dX1_usedFrames_1 : decode cX1_usedFrames 1 = .ok (.istore_n 1, 1) := by decide +kernel
theorem dX1_usedFrames_2 : decode cX1_usedFrames 2 = .ok (.iconst 0, 1) := by decide +kernel
theorem dX1_usedFrames_3 : decode cX1_usedFrames 3 = .ok (.istore_n 2, 1) := by decide +kernel
theorem dX1_usedFrames_4 : decode cX1_usedFrames 4 = .ok (.iload_n 2, 1) := by decide +kernel
theorem dX1_usedFrames_5 : decode cX1_usedFrames 5 = .ok (.bipush 24, 2) := by decide +kernel
theorem dX1_usedFrames_7 : decode cX1_usedFrames 7 = .ok (.if_icmp .ge 21, 3) := by decide +kernel
theorem dX1_usedFrames_10 : decode cX1_usedFrames 10 = .ok (.aload_n 0, 1) := by decide +kernel
theorem dX1_usedFrames_11 : decode cX1_usedFrames 11 = .ok (.getfield 15, 3) := by decide +kernel
theorem dX1_usedFrames_14 : decode cX1_usedFrames 14 = .ok (.iload_n 2, 1) := by decide +kernel
theorem dX1_usedFrames_15 : decode cX1_usedFrames 15 = .ok (.iaload, 1) := by decide +kernel
theorem dX1_usedFrames_16 : decode cX1_usedFrames 16 = .ok (.ifCond .le 6, 3) := by decide +kernel
theorem dX1_usedFrames_19 : decode cX1_usedFrames 19 = .ok (.iinc 1 1, 3) := by decide +kernel
theorem dX1_usedFrames_22 : decode cX1_usedFrames 22 = .ok (.iinc 2 1, 3) := by decide +kernel
theorem dX1_usedFrames_25 : decode cX1_usedFrames 25 = .ok (.goto (-21), 3) := by decide +kernel
theorem dX1_usedFrames_28 : decode cX1_usedFrames 28 = .ok (.iload_n 1, 1) := by decide +kernel
theorem dX1_usedFrames_29 : decode cX1_usedFrames 29 = .ok (.ireturn, 1) := by decide +kernel
theorem dX1_unusedFrame_0 : decode cX1_unusedFrame 0 = .ok (.iconst 0, 1) := by decide +kernel
theorem dX1_unusedFrame_1 : decode cX1_unusedFrame 1 = .ok (.istore_n 1, 1) := by decide +kernel
theorem dX1_unusedFrame_2 : decode cX1_unusedFrame 2 = .ok (.iconst 0, 1) := by decide +kernel
theorem dX1_unusedFrame_3 : decode cX1_unusedFrame 3 = .ok (.istore_n 2, 1) := by decide +kernel
theorem dX1_unusedFrame_4 : decode cX1_unusedFrame 4 = .ok (.iload_n 2, 1) := by decide +kernel
theorem dX1_unusedFrame_5 : decode cX1_unusedFrame 5 = .ok (.bipush 24, 2) := by decide +kernel
theorem dX1_unusedFrame_7 : decode cX1_unusedFrame 7 = .ok (.if_icmp .ge 20, 3) := by decide +kernel
theorem dX1_unusedFrame_10 : decode cX1_unusedFrame 10 = .ok (.aload_n 0, 1) := by decide +kernel
theorem dX1_unusedFrame_11 : decode cX1_unusedFrame 11 = .ok (.getfield 15, 3) := by decide +kernel
theorem dX1_unusedFrame_14 : decode cX1_unusedFrame 14 = .ok (.iload_n 2, 1) := by decide +kernel
theorem dX1_unusedFrame_15 : decode cX1_unusedFrame 15 = .ok (.iaload, 1) := by decide +kernel
theorem dX1_unusedFrame_16 : decode cX1_unusedFrame 16 = .ok (.ifCond .ne 5, 3) := by decide +kernel
theorem dX1_unusedFrame_19 : decode cX1_unusedFrame 19 = .ok (.iload_n 2, 1) := by decide +kernel
theorem dX1_unusedFrame_20 : decode cX1_unusedFrame 20 = .ok (.istore_n 1, 1) := by decide +kernel
theorem dX1_unusedFrame_21 : decode cX1_unusedFrame 21 = .ok (.iinc 2 1, 3) := by decide +kernel
theorem dX1_unusedFrame_24 : decode cX1_unusedFrame 24 = .ok (.goto (-20), 3) := by decide +kernel
theorem dX1_unusedFrame_27 : decode cX1_unusedFrame 27 = .ok (.iload_n 1, 1) := by decide +kernel
theorem dX1_unusedFrame_28 : decode cX1_unusedFrame 28 = .ok (.ireturn, 1) := by decide +kernel
theorem dX1_blank_0 : decode cX1_blank 0 = .ok (.iconst 0, 1) := by decide +kernel
theorem dX1_blank_1 : decode cX1_blank 1 = .ok (.istore_n 2, 1) := by decide +kernel
theorem dX1_blank_2 : decode cX1_blank 2 = .ok (.iload_n 2, 1) := by decide +kernel
theorem dX1_blank_3 : decode cX1_blank 3 = .ok (.iconst 4, 1) := by decide +kernel
theorem dX1_blank_4 : decode cX1_blank 4 = .ok (.if_icmp .ge 20, 3) := by decide +kernel
theorem dX1_blank_7 : decode cX1_blank 7 = .ok (.aload_n 0, 1) := by decide +kernel
theorem dX1_blank_8 : decode cX1_blank 8 = .ok (.getfield 9, 3) := by decide +kernel
theorem dX1_blank_11 : decode cX1_blank 11 = .ok (.iload_n 1, 1) := by decide +kernel
theorem dX1_blank_12 : decode cX1_blank 12 = .ok (.iconst 4, 1) := by decide +kernel
theorem dX1_blank_13 : decode cX1_blank 13 = .ok (.imul, 1) := by decide +kernel
theorem dX1_blank_14 : decode cX1_blank 14 = .ok (.iload_n 2, 1) := by decide +kernel
theorem dX1_blank_15 : decode cX1_blank 15 = .ok (.iadd, 1) := by decide +kernel
theorem dX1_blank_16 : decode cX1_blank 16 = .ok (.iconst 0, 1) := by decide +kernel
theorem dX1_blank_17 : decode cX1_blank 17 = .ok (.iastore, 1) := by decide +kernel
theorem dX1_blank_18 : decode cX1_blank 18 = .ok (.iinc 2 1, 3) := by decide +kernel
theorem dX1_blank_21 : decode cX1_blank 21 = .ok (.goto (-19), 3) := by decide +kernel
theorem dX1_blank_24 : decode cX1_blank 24 = .ok (.return_, 1) := by decide +kernel
theorem dX1_copy_0 : decode cX1_copy 0 = .ok (.iconst 0, 1) := by decide +kernel
theorem dX1_copy_1 : decode cX1_copy 1 = .ok (.istore_n 3, 1) := by decide +kernel
theorem dX1_copy_2 : decode cX1_copy 2 = .ok (.iload_n 3, 1) := by decide +kernel
theorem dX1_copy_3 : decode cX1_copy 3 = .ok (.iconst 4, 1) := by decide +kernel
theorem dX1_copy_4 : decode cX1_copy 4 = .ok (.if_icmp .ge 29, 3) := by decide +kernel
theorem dX1_copy_7 : decode cX1_copy 7 = .ok (.aload_n 0, 1) := by decide +kernel
theorem dX1_copy_8 : decode cX1_copy 8 = .ok (.getfield 9, 3) := by decide +kernel
theorem dX1_copy_11 : decode cX1_copy 11 = .ok (.iload_n 2, 1) := by decide +kernel
theorem dX1_copy_12 : decode cX1_copy 12 = .ok (.iconst 4, 1) := by decide +kernel
theorem dX1_copy_13 : decode cX1_copy 13 = .ok (.imul, 1) := by decide +kernel
theorem dX1_copy_14 : decode cX1_copy 14 = .ok (.iload_n 3, 1) := by decide +kernel
theorem dX1_copy_15 : decode cX1_copy 15 = .ok (.iadd, 1) := by decide +kernel
theorem dX1_copy_16 : decode cX1_copy 16 = .ok (.aload_n 0, 1) := by decide +kernel
theorem dX1_copy_17 : decode cX1_copy 17 = .ok (.getfield 9, 3) := by decide +kernel
theorem dX1_copy_20 : decode cX1_copy 20 = .ok (.iload_n 1, 1) := by decide +kernel
theorem dX1_copy_21 : decode cX1_copy 21 = .ok (.iconst 4, 1) := by decide +kernel
theorem dX1_copy_22 : decode cX1_copy 22 = .ok (.imul, 1) := by decide +kernel
theorem dX1_copy_23 : decode cX1_copy 23 = .ok (.iload_n 3, 1) := by decide +kernel
theorem dX1_copy_24 : decode cX1_copy 24 = .ok (.iadd, 1) := by decide +kernel
theorem dX1_copy_25 : decode cX1_copy 25 = .ok (.iaload, 1) := by decide +kernel
theorem dX1_copy_26 : decode cX1_copy 26 = .ok (.iastore, 1) := by decide +kernel
theorem dX1_copy_27 : decode cX1_copy 27 = .ok (.iinc 3 1, 3) := by decide +kernel
theorem dX1_copy_30 : decode cX1_copy 30 = .ok (.goto (-28), 3) := by decide +kernel
theorem dX1_copy_33 : decode cX1_copy 33 = .ok (.return_, 1) := by decide +kernel
theorem dX2_init_0 : decode cX2_init 0 = .ok (.aload_n 0, 1) := by decide +kernel
theorem dX2_init_1 : decode cX2_init 1 = .ok (.invokespecial 1, 3) := by decide +kernel
theorem dX2_init_4 : decode cX2_init 4 = .ok (.aload_n 0, 1) := by decide +kernel
theorem dX2_init_5 : decode cX2_init 5 = .ok (.iconst 5, 1) := by decide +kernel
theorem dX2_init_6 : decode cX2_init 6 = .ok (.anewarray 9, 3) := by decide +kernel
theorem dX2_init_9 : decode cX2_init 9 = .ok (.putfield 11, 3) := by decide +kernel
theorem dX2_init_12 : decode cX2_init 12 = .ok (.iconst 0, 1) := by decide +kernel
theorem dX2_init_13 : decode cX2_init 13 = .ok (.istore_n 1, 1) := by decide +kernel
theorem dX2_init_14 : decode cX2_init 14 = .ok (.iload_n 1, 1) := by decide +kernel
theorem dX2_init_15 : decode cX2_init 15 = .ok (.iconst 5, 1) := by decide +kernel
theorem dX2_init_16 : decode cX2_init 16 = .ok (.if_icmp .ge 22, 3) := by decide +kernel
theorem dX2_init_19 : decode cX2_init 19 = .ok (.aload_n 0, 1) := by decide +kernel
theorem dX2_init_20 : decode cX2_init 20 = .ok (.getfield 11, 3) := by decide +kernel
theorem dX2_init_23 : decode cX2_init 23 = .ok (.iload_n 1, 1) := by decide +kernel
theorem dX2_init_24 : decode cX2_init 24 = .ok (.new 9, 3) := by decide +kernel
theorem dX2_init_27 : decode cX2_init 27 = .ok (.dup, 1) := by decide +kernel
theorem dX2_init_28 : decode cX2_init 28 = .ok (.invokespecial 15, 3) := by decide +kernel
theorem dX2_init_31 : decode cX2_init 31 = .ok (.aastore, 1) := by decide +kernel
theorem dX2_init_32 : decode cX2_init 32 = .ok (.iinc 1 1, 3) := by decide +kernel
theorem dX2_init_35 : decode cX2_init 35 = .ok (.goto (-21), 3) := by decide +kernel
theorem dX2_init_38 : decode cX2_init 38 = .ok (.aload_n 0, 1) := by decide +kernel
theorem dX2_init_39 : decode cX2_init 39 = .ok (.new 16, 3) := by decide +kernel
theorem dX2_init_42 : decode cX2_init 42 = .ok (.dup, 1) := by decide +kernel
theorem dX2_init_43 : decode cX2_init 43 = .ok (.invokespecial 18, 3) := by decide +kernel
theorem dX2_init_46 : decode cX2_init 46 = .ok (.putfield 19, 3) := by decide +kernel
theorem dX2_init_49 : decode cX2_init 49 = .ok (.return_, 1) := by decide +kernel
theorem dX2_spawn_0 : decode cX2_spawn 0 = .ok (.aload_n 0, 1) := by decide +kernel
theorem dX2_spawn_1 : decode cX2_spawn 1 = .ok (.invokevirtual 23, 3) := by decide +kernel
theorem dX2_spawn_4 : decode cX2_spawn 4 = .ok (.istore_n 1, 1) := by decide +kernel
theorem dX2_spawn_5 : decode cX2_spawn 5 = .ok (.iload_n 1, 1) := by decide +kernel
theorem dX2_spawn_6 : decode cX2_spawn 6 = .ok (.ifCond .ge 6, 3) := by decide +kernel
theorem dX2_spawn_9 : decode cX2_spawn 9 = .ok (.bipush (-7), 2) := by decide +kernel
theorem dX2_spawn_11 : decode cX2_spawn 11 = .ok (.ireturn, 1) := by decide +kernel
theorem dX2_spawn_12 : decode cX2_spawn 12 = .ok (.aload_n 0, 1) := by decide +kernel
theorem dX2_spawn_13 : decode cX2_spawn 13 = .ok (.invokevirtual 27, 3) := by decide +kernel
theorem dX2_spawn_16 : decode cX2_spawn 16 = .ok (.lconst 0, 1) := by decide +kernel
theorem dX2_spawn_17 : decode cX2_spawn 17 = .ok (.invokestatic 30, 3) := by decide +kernel
theorem dX2_spawn_20 : decode cX2_spawn 20 = .ok (.if_icmp .ge 6, 3) := by decide +kernel
theorem dX2_spawn_23 : decode cX2_spawn 23 = .ok (.bipush (-8), 2) := by decide +kernel
theorem dX2_spawn_25 : decode cX2_spawn 25 = .ok (.ireturn, 1) := by decide +kernel
theorem dX2_spawn_26 : decode cX2_spawn 26 = .ok (.aload_n 0, 1) := by decide +kernel
theorem dX2_spawn_27 : decode cX2_spawn 27 = .ok (.getfield 11, 3) := by decide +kernel
theorem dX2_spawn_30 : decode cX2_spawn 30 = .ok (.iload_n 1, 1) := by decide +kernel
theorem dX2_spawn_31 : decode cX2_spawn 31 = .ok (.aaload, 1) := by decide +kernel
theorem dX2_spawn_32 : decode cX2_spawn 32 = .ok (.iconst 1, 1) := by decide +kernel
theorem dX2_spawn_33 : decode cX2_spawn 33 = .ok (.putfield 34, 3) := by decide +kernel
theorem dX2_spawn_36 : decode cX2_spawn 36 = .ok (.iload_n 1, 1) := by decide +kernel
theorem dX2_spawn_37 : decode cX2_spawn 37 = .ok (.ireturn, 1) := by decide +kernel
theorem dX2_fork_0 : decode cX2_fork 0 = .ok (.aload_n 0, 1) := by decide +kernel
theorem dX2_fork_1 : decode cX2_fork 1 = .ok (.iload_n 1, 1) := by decide +kernel
theorem dX2_fork_2 : decode cX2_fork 2 = .ok (.invokevirtual 38, 3) := by decide +kernel
theorem dX2_fork_5 : decode cX2_fork 5 = .ok (.ifCond .ne 5, 3) := by decide +kernel
theorem dX2_fork_8 : decode cX2_fork 8 = .ok (.iconst (-1), 1) := by decide +kernel
theorem dX2_fork_9 : decode cX2_fork 9 = .ok (.ireturn, 1) := by decide +kernel
theorem dX2_fork_10 : decode cX2_fork 10 = .ok (.aload_n 0, 1) := by decide +kernel
theorem dX2_fork_11 : decode cX2_fork 11 = .ok (.invokevirtual 23, 3) := by decide +kernel
theorem dX2_fork_14 : decode cX2_fork 14 = .ok (.istore_n 2, 1) := by decide +kernel
theorem dX2_fork_15 : decode cX2_fork 15 = .ok (.iload_n 2, 1) := by decide +kernel
theorem dX2_fork_16 : decode cX2_fork 16 = .ok (.ifCond .ge 6, 3) := by decide +kernel
theorem dX2_fork_19 : decode cX2_fork 19 = .ok (.bipush (-7), 2) := by decide +kernel
theorem dX2_fork_21 : decode cX2_fork 21 = .ok (.ireturn, 1) := by decide +kernel
theorem dX2_fork_22 : decode cX2_fork 22 = .ok (.aload_n 0, 1) := by decide +kernel
theorem dX2_fork_23 : decode cX2_fork 23 = .ok (.getfield 11, 3) := by decide +kernel
theorem dX2_fork_26 : decode cX2_fork 26 = .ok (.iload_n 1, 1) := by decide +kernel
theorem dX2_fork_27 : decode cX2_fork 27 = .ok (.aaload, 1) := by decide +kernel
theorem dX2_fork_28 : decode cX2_fork 28 = .ok (.astore_n 3, 1) := by decide +kernel
theorem dX2_fork_29 : decode cX2_fork 29 = .ok (.aload_n 0, 1) := by decide +kernel
theorem dX2_fork_30 : decode cX2_fork 30 = .ok (.invokevirtual 27, 3) := by decide +kernel
theorem dX2_fork_33 : decode cX2_fork 33 = .ok (.aload_n 3, 1) := by decide +kernel
theorem dX2_fork_34 : decode cX2_fork 34 = .ok (.invokevirtual 42, 3) := by decide +kernel
theorem dX2_fork_37 : decode cX2_fork 37 = .ok (.if_icmp .ge 6, 3) := by decide +kernel
theorem dX2_fork_40 : decode cX2_fork 40 = .ok (.bipush (-8), 2) := by decide +kernel
theorem dX2_fork_42 : decode cX2_fork 42 = .ok (.ireturn, 1) := by decide +kernel
theorem dX2_fork_43 : decode cX2_fork 43 = .ok (.aload_n 0, 1) := by decide +kernel
theorem dX2_fork_44 : decode cX2_fork 44 = .ok (.getfield 11, 3) := by decide +kernel
theorem dX2_fork_47 : decode cX2_fork 47 = .ok (.iload_n 2, 1) := by decide +kernel
theorem dX2_fork_48 : decode cX2_fork 48 = .ok (.aaload, 1) := by decide +kernel
theorem dX2_fork_49 : decode cX2_fork 49 = .ok (.astore 4, 2) := by decide +kernel
theorem dX2_fork_51 : decode cX2_fork 51 = .ok (.aload 4, 2) := by decide +kernel
theorem dX2_fork_53 : decode cX2_fork 53 = .ok (.iconst 1, 1) := by decide +kernel
theorem dX2_fork_54 : decode cX2_fork 54 = .ok (.putfield 34, 3) := by decide +kernel
theorem dX2_fork_57 : decode cX2_fork 57 = .ok (.iconst 0, 1) := by decide +kernel
theorem dX2_fork_58 : decode cX2_fork 58 = .ok (.istore 5, 2) := by decide +kernel
theorem dX2_fork_60 : decode cX2_fork 60 = .ok (.iload 5, 2) := by decide +kernel
theorem dX2_fork_62 : decode cX2_fork 62 = .ok (.bipush 64, 2) := by decide +kernel
theorem dX2_fork_64 : decode cX2_fork 64 = .ok (.if_icmp .ge 27, 3) := by decide +kernel
theorem dX2_fork_67 : decode cX2_fork 67 = .ok (.aload_n 3, 1) := by decide +kernel
theorem dX2_fork_68 : decode cX2_fork 68 = .ok (.iload 5, 2) := by decide +kernel
theorem dX2_fork_70 : decode cX2_fork 70 = .ok (.invokevirtual 45, 3) := by decide +kernel
theorem dX2_fork_73 : decode cX2_fork 73 = .ok (.ifCond .eq 12, 3) := by decide +kernel
theorem dX2_fork_76 : decode cX2_fork 76 = .ok (.aload_n 0, 1) := by decide +kernel
theorem dX2_fork_77 : decode cX2_fork 77 = .ok (.aload_n 3, 1) := by decide +kernel
theorem dX2_fork_78 : decode cX2_fork 78 = .ok (.aload 4, 2) := by decide +kernel
theorem dX2_fork_80 : decode cX2_fork 80 = .ok (.iload 5, 2) := by decide +kernel
theorem dX2_fork_82 : decode cX2_fork 82 = .ok (.invokevirtual 48, 3) := by decide +kernel
theorem dX2_fork_85 : decode cX2_fork 85 = .ok (.iinc 5 1, 3) := by decide +kernel
theorem dX2_fork_88 : decode cX2_fork 88 = .ok (.goto (-28), 3) := by decide +kernel
theorem dX2_fork_91 : decode cX2_fork 91 = .ok (.iload_n 2, 1) := by decide +kernel
theorem dX2_fork_92 : decode cX2_fork 92 = .ok (.ireturn, 1) := by decide +kernel
theorem dX2_exit_0 : decode cX2_exit 0 = .ok (.aload_n 0, 1) := by decide +kernel
theorem dX2_exit_1 : decode cX2_exit 1 = .ok (.iload_n 1, 1) := by decide +kernel
theorem dX2_exit_2 : decode cX2_exit 2 = .ok (.invokevirtual 38, 3) := by decide +kernel
theorem dX2_exit_5 : decode cX2_exit 5 = .ok (.ifCond .ne 5, 3) := by decide +kernel
theorem dX2_exit_8 : decode cX2_exit 8 = .ok (.iconst (-1), 1) := by decide +kernel
theorem dX2_exit_9 : decode cX2_exit 9 = .ok (.ireturn, 1) := by decide +kernel
theorem dX2_exit_10 : decode cX2_exit 10 = .ok (.aload_n 0, 1) := by decide +kernel
theorem dX2_exit_11 : decode cX2_exit 11 = .ok (.invokevirtual 27, 3) := by decide +kernel
theorem dX2_exit_14 : decode cX2_exit 14 = .ok (.istore_n 2, 1) := by decide +kernel
theorem dX2_exit_15 : decode cX2_exit 15 = .ok (.aload_n 0, 1) := by decide +kernel
theorem dX2_exit_16 : decode cX2_exit 16 = .ok (.getfield 11, 3) := by decide +kernel
theorem dX2_exit_19 : decode cX2_exit 19 = .ok (.iload_n 1, 1) := by decide +kernel
theorem dX2_exit_20 : decode cX2_exit 20 = .ok (.aaload, 1) := by decide +kernel
theorem dX2_exit_21 : decode cX2_exit 21 = .ok (.astore_n 3, 1) := by decide +kernel
theorem dX2_exit_22 : decode cX2_exit 22 = .ok (.iconst 0, 1) := by decide +kernel
theorem dX2_exit_23 : decode cX2_exit 23 = .ok (.istore 4, 2) := by decide +kernel
theorem dX2_exit_25 : decode cX2_exit 25 = .ok (.iload 4, 2) := by decide +kernel
theorem dX2_exit_27 : decode cX2_exit 27 = .ok (.bipush 64, 2) := by decide +kernel
theorem dX2_exit_29 : decode cX2_exit 29 = .ok (.if_icmp .ge 25, 3) := by decide +kernel
theorem dX2_exit_32 : decode cX2_exit 32 = .ok (.aload_n 3, 1) := by decide +kernel
theorem dX2_exit_33 : decode cX2_exit 33 = .ok (.iload 4, 2) := by decide +kernel
theorem dX2_exit_35 : decode cX2_exit 35 = .ok (.invokevirtual 45, 3) := by decide +kernel
theorem dX2_exit_38 : decode cX2_exit 38 = .ok (.ifCond .eq 10, 3) := by decide +kernel
theorem dX2_exit_41 : decode cX2_exit 41 = .ok (.aload_n 0, 1) := by decide +kernel
theorem dX2_exit_42 : decode cX2_exit 42 = .ok (.aload_n 3, 1) := by decide +kernel
theorem dX2_exit_43 : decode cX2_exit 43 = .ok (.iload 4, 2) := by decide +kernel
theorem dX2_exit_45 : decode cX2_exit 45 = .ok (.invokevirtual 52, 3) := by decide +kernel
theorem dX2_exit_48 : decode cX2_exit 48 = .ok (.iinc 4 1, 3) := by decide +kernel
theorem dX2_exit_51 : decode cX2_exit 51 = .ok (.goto (-26), 3) := by decide +kernel
theorem dX2_exit_54 : decode cX2_exit 54 = .ok (.aload_n 3, 1) := by decide +kernel
theorem dX2_exit_55 : decode cX2_exit 55 = .ok (.iconst 0, 1) := by decide +kernel
theorem dX2_exit_56 : decode cX2_exit 56 = .ok (.putfield 34, 3) := by decide +kernel
theorem dX2_exit_59 : decode cX2_exit 59 = .ok (.aload_n 0, 1) := by decide +kernel
theorem dX2_exit_60 : decode cX2_exit 60 = .ok (.invokevirtual 27, 3) := by decide +kernel
theorem dX2_exit_63 : decode cX2_exit 63 = .ok (.iload_n 2, 1) := by decide +kernel
theorem dX2_exit_64 : decode cX2_exit 64 = .ok (.isub, 1) := by decide +kernel
theorem dX2_exit_65 : decode cX2_exit 65 = .ok (.ireturn, 1) := by decide +kernel
theorem dX2_map_0 : decode cX2_map 0 = .ok (.aload_n 0, 1) := by decide +kernel
theorem dX2_map_1 : decode cX2_map 1 = .ok (.iload_n 1, 1) := by decide +kernel
theorem dX2_map_2 : decode cX2_map 2 = .ok (.invokevirtual 38, 3) := by decide +kernel
theorem dX2_map_5 : decode cX2_map 5 = .ok (.ifCond .ne 5, 3) := by decide +kernel
theorem dX2_map_8 : decode cX2_map 8 = .ok (.iconst (-1), 1) := by decide +kernel
theorem dX2_map_9 : decode cX2_map 9 = .ok (.ireturn, 1) := by decide +kernel
theorem dX2_map_10 : decode cX2_map 10 = .ok (.iload_n 2, 1) := by decide +kernel
theorem dX2_map_11 : decode cX2_map 11 = .ok (.invokestatic 56, 3) := by decide +kernel
theorem dX2_map_14 : decode cX2_map 14 = .ok (.ifCond .ne 6, 3) := by decide +kernel
theorem dX2_map_17 : decode cX2_map 17 = .ok (.bipush (-2), 2) := by decide +kernel
theorem dX2_map_19 : decode cX2_map 19 = .ok (.ireturn, 1) := by decide +kernel
theorem dX2_map_20 : decode cX2_map 20 = .ok (.aload_n 0, 1) := by decide +kernel
theorem dX2_map_21 : decode cX2_map 21 = .ok (.getfield 11, 3) := by decide +kernel
theorem dX2_map_24 : decode cX2_map 24 = .ok (.iload_n 1, 1) := by decide +kernel
theorem dX2_map_25 : decode cX2_map 25 = .ok (.aaload, 1) := by decide +kernel
theorem dX2_map_26 : decode cX2_map 26 = .ok (.astore 4, 2) := by decide +kernel
theorem dX2_map_28 : decode cX2_map 28 = .ok (.aload 4, 2) := by decide +kernel
theorem dX2_map_30 : decode cX2_map 30 = .ok (.iload_n 2, 1) := by decide +kernel
theorem dX2_map_31 : decode cX2_map 31 = .ok (.invokevirtual 45, 3) := by decide +kernel
theorem dX2_map_34 : decode cX2_map 34 = .ok (.ifCond .eq 6, 3) := by decide +kernel
theorem dX2_map_37 : decode cX2_map 37 = .ok (.bipush (-4), 2) := by decide +kernel
theorem dX2_map_39 : decode cX2_map 39 = .ok (.ireturn, 1) := by decide +kernel
theorem dX2_map_40 : decode cX2_map 40 = .ok (.iconst 1, 1) := by decide +kernel
theorem dX2_map_41 : decode cX2_map 41 = .ok (.aload 4, 2) := by decide +kernel
theorem dX2_map_43 : decode cX2_map 43 = .ok (.iload_n 2, 1) := by decide +kernel
theorem dX2_map_44 : decode cX2_map 44 = .ok (.invokevirtual 59, 3) := by decide +kernel
theorem dX2_map_47 : decode cX2_map 47 = .ok (.iadd, 1) := by decide +kernel
theorem dX2_map_48 : decode cX2_map 48 = .ok (.istore 5, 2) := by decide +kernel
theorem dX2_map_50 : decode cX2_map 50 = .ok (.aload_n 0, 1) := by decide +kernel
theorem dX2_map_51 : decode cX2_map 51 = .ok (.invokevirtual 27, 3) := by decide +kernel
theorem dX2_map_54 : decode cX2_map 54 = .ok (.iload 5, 2) := by decide +kernel
theorem dX2_map_56 : decode cX2_map 56 = .ok (.if_icmp .ge 6, 3) := by decide +kernel
theorem dX2_map_59 : decode cX2_map 59 = .ok (.bipush (-8), 2) := by decide +kernel
theorem dX2_map_61 : decode cX2_map 61 = .ok (.ireturn, 1) := by decide +kernel
theorem dX2_map_62 : decode cX2_map 62 = .ok (.aload_n 0, 1) := by decide +kernel
theorem dX2_map_63 : decode cX2_map 63 = .ok (.getfield 19, 3) := by decide +kernel
theorem dX2_map_66 : decode cX2_map 66 = .ok (.invokevirtual 63, 3) := by decide +kernel
theorem dX2_map_69 : decode cX2_map 69 = .ok (.istore 6, 2) := by decide +kernel
theorem dX2_map_71 : decode cX2_map 71 = .ok (.aload_n 0, 1) := by decide +kernel
theorem dX2_map_72 : decode cX2_map 72 = .ok (.getfield 19, 3) := by decide +kernel
theorem dX2_map_75 : decode cX2_map 75 = .ok (.iload 6, 2) := by decide +kernel
theorem dX2_map_77 : decode cX2_map 77 = .ok (.invokevirtual 66, 3) := by decide +kernel
theorem dX2_map_80 : decode cX2_map 80 = .ok (.aload_n 0, 1) := by decide +kernel
theorem dX2_map_81 : decode cX2_map 81 = .ok (.aload 4, 2) := by decide +kernel
theorem dX2_map_83 : decode cX2_map 83 = .ok (.iload_n 2, 1) := by decide +kernel
theorem dX2_map_84 : decode cX2_map 84 = .ok (.iload 6, 2) := by decide +kernel
theorem dX2_map_86 : decode cX2_map 86 = .ok (.iload_n 3, 1) := by decide +kernel
theorem dX2_map_87 : decode cX2_map 87 = .ok (.ifCond .eq 7, 3) := by decide +kernel
theorem dX2_map_90 : decode cX2_map 90 = .ok (.iconst 3, 1) := by decide +kernel
theorem dX2_map_91 : decode cX2_map 91 = .ok (.goto 4, 3) := by decide +kernel
theorem dX2_map_94 : decode cX2_map 94 = .ok (.iconst 1, 1) := by decide +kernel
theorem dX2_map_95 : decode cX2_map 95 = .ok (.invokevirtual 70, 3) := by decide +kernel
theorem dX2_map_98 : decode cX2_map 98 = .ok (.iload 5, 2) := by decide +kernel
theorem dX2_map_100 : decode cX2_map 100 = .ok (.ireturn, 1) := by decide +kernel
theorem dX2_attach_0 : decode cX2_attach 0 = .ok (.aload_n 0, 1) := by decide +kernel
theorem dX2_attach_1 : decode cX2_attach 1 = .ok (.iload_n 1, 1) := by decide +kernel
theorem dX2_attach_2 : decode cX2_attach 2 = .ok (.invokevirtual 38, 3) := by decide +kernel
theorem dX2_attach_5 : decode cX2_attach 5 = .ok (.ifCond .eq 11, 3) := by decide +kernel
theorem dX2_attach_8 : decode cX2_attach 8 = .ok (.aload_n 0, 1) := by decide +kernel
theorem dX2_attach_9 : decode cX2_attach 9 = .ok (.iload_n 3, 1) := by decide +kernel
theorem dX2_attach_10 : decode cX2_attach 10 = .ok (.invokevirtual 38, 3) := by decide +kernel
theorem dX2_attach_13 : decode cX2_attach 13 = .ok (.ifCond .ne 5, 3) := by decide +kernel
theorem dX2_attach_16 : decode cX2_attach 16 = .ok (.iconst (-1), 1) := by decide +kernel
theorem dX2_attach_17 : decode cX2_attach 17 = .ok (.ireturn, 1) := by decide +kernel
theorem dX2_attach_18 : decode cX2_attach 18 = .ok (.iload_n 2, 1) := by decide +kernel
theorem dX2_attach_19 : decode cX2_attach 19 = .ok (.invokestatic 56, 3) := by decide +kernel
theorem dX2_attach_22 : decode cX2_attach 22 = .ok (.ifCond .eq 11, 3) := by decide +kernel
theorem dX2_attach_25 : decode cX2_attach 25 = .ok (.iload 4, 2) := by decide +kernel
theorem dX2_attach_27 : decode cX2_attach 27 = .ok (.invokestatic 56, 3) := by decide +kernel
theorem dX2_attach_30 : decode cX2_attach 30 = .ok (.ifCond .ne 6, 3) := by decide +kernel
theorem dX2_attach_33 : decode cX2_attach 33 = .ok (.bipush (-2), 2) := by decide +kernel
theorem dX2_attach_35 : decode cX2_attach 35 = .ok (.ireturn, 1) := by decide +kernel
theorem dX2_attach_36 : decode cX2_attach 36 = .ok (.aload_n 0, 1) := by decide +kernel
theorem dX2_attach_37 : decode cX2_attach 37 = .ok (.getfield 11, 3) := by decide +kernel
theorem dX2_attach_40 : decode cX2_attach 40 = .ok (.iload_n 1, 1) := by decide +kernel
theorem dX2_attach_41 : decode cX2_attach 41 = .ok (.aaload, 1) := by decide +kernel
theorem dX2_attach_42 : decode cX2_attach 42 = .ok (.astore 5, 2) := by decide +kernel
theorem dX2_attach_44 : decode cX2_attach 44 = .ok (.aload_n 0, 1) := by decide +kernel
theorem dX2_attach_45 : decode cX2_attach 45 = .ok (.getfield 11, 3) := by decide +kernel
theorem dX2_attach_48 : decode cX2_attach 48 = .ok (.iload_n 3, 1) := by decide +kernel
theorem dX2_attach_49 : decode cX2_attach 49 = .ok (.aaload, 1) := by decide +kernel
theorem dX2_attach_50 : decode cX2_attach 50 = .ok (.astore 6, 2) := by decide +kernel
theorem dX2_attach_52 : decode cX2_attach 52 = .ok (.aload 6, 2) := by decide +kernel
theorem dX2_attach_54 : decode cX2_attach 54 = .ok (.iload 4, 2) := by decide +kernel
theorem dX2_attach_56 : decode cX2_attach 56 = .ok (.invokevirtual 45, 3) := by decide +kernel
theorem dX2_attach_59 : decode cX2_attach 59 = .ok (.ifCond .ne 6, 3) := by decide +kernel
theorem dX2_attach_62 : decode cX2_attach 62 = .ok (.bipush (-3), 2) := by decide +kernel
theorem dX2_attach_64 : decode cX2_attach 64 = .ok (.ireturn, 1) := by decide +kernel
theorem dX2_attach_65 : decode cX2_attach 65 = .ok (.aload 5, 2) := by decide +kernel
theorem dX2_attach_67 : decode cX2_attach 67 = .ok (.iload_n 2, 1) := by decide +kernel
theorem dX2_attach_68 : decode cX2_attach 68 = .ok (.invokevirtual 45, 3) := by decide +kernel
theorem dX2_attach_71 : decode cX2_attach 71 = .ok (.ifCond .eq 6, 3) := by decide +kernel
theorem dX2_attach_74 : decode cX2_attach 74 = .ok (.bipush (-4), 2) := by decide +kernel
theorem dX2_attach_76 : decode cX2_attach 76 = .ok (.ireturn, 1) := by decide +kernel
theorem dX2_attach_77 : decode cX2_attach 77 = .ok (.aload 6, 2) := by decide +kernel
theorem dX2_attach_79 : decode cX2_attach 79 = .ok (.iconst 2, 1) := by decide +kernel
theorem dX2_attach_80 : decode cX2_attach 80 = .ok (.iload 4, 2) := by decide +kernel
theorem dX2_attach_82 : decode cX2_attach 82 = .ok (.invokevirtual 74, 3) := by decide +kernel
theorem dX2_attach_85 : decode cX2_attach 85 = .ok (.ifCond .ne 6, 3) := by decide +kernel
theorem dX2_attach_88 : decode cX2_attach 88 = .ok (.bipush (-6), 2) := by decide +kernel
theorem dX2_attach_90 : decode cX2_attach 90 = .ok (.ireturn, 1) := by decide +kernel
theorem dX2_attach_91 : decode cX2_attach 91 = .ok (.aload 5, 2) := by decide +kernel
theorem dX2_attach_93 : decode cX2_attach 93 = .ok (.iload_n 2, 1) := by decide +kernel
theorem dX2_attach_94 : decode cX2_attach 94 = .ok (.invokevirtual 59, 3) := by decide +kernel
theorem dX2_attach_97 : decode cX2_attach 97 = .ok (.istore 7, 2) := by decide +kernel
theorem dX2_attach_99 : decode cX2_attach 99 = .ok (.aload_n 0, 1) := by decide +kernel
theorem dX2_attach_100 : decode cX2_attach 100 = .ok (.invokevirtual 27, 3) := by decide +kernel
theorem dX2_attach_103 : decode cX2_attach 103 = .ok (.iload 7, 2) := by decide +kernel
theorem dX2_attach_105 : decode cX2_attach 105 = .ok (.if_icmp .ge 6, 3) := by decide +kernel
theorem dX2_attach_108 : decode cX2_attach 108 = .ok (.bipush (-8), 2) := by decide +kernel
theorem dX2_attach_110 : decode cX2_attach 110 = .ok (.ireturn, 1) := by decide +kernel
theorem dX2_attach_111 : decode cX2_attach 111 = .ok (.aload 6, 2) := by decide +kernel
theorem dX2_attach_113 : decode cX2_attach 113 = .ok (.iconst 1, 1) := by decide +kernel
theorem dX2_attach_114 : decode cX2_attach 114 = .ok (.iload 4, 2) := by decide +kernel
theorem dX2_attach_116 : decode cX2_attach 116 = .ok (.invokevirtual 74, 3) := by decide +kernel
theorem dX2_attach_119 : decode cX2_attach 119 = .ok (.ifCond .eq 7, 3) := by decide +kernel
theorem dX2_attach_122 : decode cX2_attach 122 = .ok (.iconst 3, 1) := by decide +kernel
theorem dX2_attach_123 : decode cX2_attach 123 = .ok (.goto 4, 3) := by decide +kernel
theorem dX2_attach_126 : decode cX2_attach 126 = .ok (.iconst 2, 1) := by decide +kernel
theorem dX2_attach_127 : decode cX2_attach 127 = .ok (.istore 8, 2) := by decide +kernel
theorem dX2_attach_129 : decode cX2_attach 129 = .ok (.aload_n 0, 1) := by decide +kernel
theorem dX2_attach_130 : decode cX2_attach 130 = .ok (.aload 5, 2) := by decide +kernel
theorem dX2_attach_132 : decode cX2_attach 132 = .ok (.iload_n 2, 1) := by decide +kernel
theorem dX2_attach_133 : decode cX2_attach 133 = .ok (.aload 6, 2) := by decide +kernel
theorem dX2_attach_135 : decode cX2_attach 135 = .ok (.getfield 78, 3) := by decide +kernel
theorem dX2_attach_138 : decode cX2_attach 138 = .ok (.iload 4, 2) := by decide +kernel
theorem dX2_attach_140 : decode cX2_attach 140 = .ok (.iaload, 1) := by decide +kernel
theorem dX2_attach_141 : decode cX2_attach 141 = .ok (.iload 8, 2) := by decide +kernel
theorem dX2_attach_143 : decode cX2_attach 143 = .ok (.invokevirtual 70, 3) := by decide +kernel
theorem dX2_attach_146 : decode cX2_attach 146 = .ok (.iload 7, 2) := by decide +kernel
theorem dX2_attach_148 : decode cX2_attach 148 = .ok (.ireturn, 1) := by decide +kernel
theorem dX2_unmap_0 : decode cX2_unmap 0 = .ok (.aload_n 0, 1) := by decide +kernel
theorem dX2_unmap_1 : decode cX2_unmap 1 = .ok (.iload_n 1, 1) := by decide +kernel
theorem dX2_unmap_2 : decode cX2_unmap 2 = .ok (.iload_n 2, 1) := by decide +kernel
theorem dX2_unmap_3 : decode cX2_unmap 3 = .ok (.invokevirtual 82, 3) := by decide +kernel
theorem dX2_unmap_6 : decode cX2_unmap 6 = .ok (.istore_n 3, 1) := by decide +kernel
theorem dX2_unmap_7 : decode cX2_unmap 7 = .ok (.iload_n 3, 1) := by decide +kernel
theorem dX2_unmap_8 : decode cX2_unmap 8 = .ok (.ifCond .eq 5, 3) := by decide +kernel
theorem dX2_unmap_11 : decode cX2_unmap 11 = .ok (.iload_n 3, 1) := by decide +kernel
theorem dX2_unmap_12 : decode cX2_unmap 12 = .ok (.ireturn, 1) := by decide +kernel
theorem dX2_unmap_13 : decode cX2_unmap 13 = .ok (.aload_n 0, 1) := by decide +kernel
theorem dX2_unmap_14 : decode cX2_unmap 14 = .ok (.invokevirtual 27, 3) := by decide +kernel
theorem dX2_unmap_17 : decode cX2_unmap 17 = .ok (.istore 4, 2) := by decide +kernel
theorem dX2_unmap_19 : decode cX2_unmap 19 = .ok (.aload_n 0, 1) := by decide +kernel
theorem dX2_unmap_20 : decode cX2_unmap 20 = .ok (.aload_n 0, 1) := by decide +kernel
theorem dX2_unmap_21 : decode cX2_unmap 21 = .ok (.getfield 11, 3) := by decide +kernel
theorem dX2_unmap_24 : decode cX2_unmap 24 = .ok (.iload_n 1, 1) := by decide +kernel
theorem dX2_unmap_25 : decode cX2_unmap 25 = .ok (.aaload, 1) := by decide +kernel
theorem dX2_unmap_26 : decode cX2_unmap 26 = .ok (.iload_n 2, 1) := by decide +kernel
theorem dX2_unmap_27 : decode cX2_unmap 27 = .ok (.invokevirtual 52, 3) := by decide +kernel
theorem dX2_unmap_30 : decode cX2_unmap 30 = .ok (.aload_n 0, 1) := by decide +kernel
theorem dX2_unmap_31 : decode cX2_unmap 31 = .ok (.invokevirtual 27, 3) := by decide +kernel
theorem dX2_unmap_34 : decode cX2_unmap 34 = .ok (.iload 4, 2) := by decide +kernel
theorem dX2_unmap_36 : decode cX2_unmap 36 = .ok (.isub, 1) := by decide +kernel
theorem dX2_unmap_37 : decode cX2_unmap 37 = .ok (.ireturn, 1) := by decide +kernel
theorem dX2_protect_0 : decode cX2_protect 0 = .ok (.aload_n 0, 1) := by decide +kernel
theorem dX2_protect_1 : decode cX2_protect 1 = .ok (.iload_n 1, 1) := by decide +kernel
theorem dX2_protect_2 : decode cX2_protect 2 = .ok (.iload_n 2, 1) := by decide +kernel
theorem dX2_protect_3 : decode cX2_protect 3 = .ok (.invokevirtual 82, 3) := by decide +kernel
theorem dX2_protect_6 : decode cX2_protect 6 = .ok (.istore 4, 2) := by decide +kernel
theorem dX2_protect_8 : decode cX2_protect 8 = .ok (.iload 4, 2) := by decide +kernel
theorem dX2_protect_10 : decode cX2_protect 10 = .ok (.ifCond .eq 6, 3) := by decide +kernel
theorem dX2_protect_13 : decode cX2_protect 13 = .ok (.iload 4, 2) := by decide +kernel
theorem dX2_protect_15 : decode cX2_protect 15 = .ok (.ireturn, 1) := by decide +kernel
theorem dX2_protect_16 : decode cX2_protect 16 = .ok (.aload_n 0, 1) := by decide +kernel
theorem dX2_protect_17 : decode cX2_protect 17 = .ok (.getfield 11, 3) := by decide +kernel
theorem dX2_protect_20 : decode cX2_protect 20 = .ok (.iload_n 1, 1) := by decide +kernel
theorem dX2_protect_21 : decode cX2_protect 21 = .ok (.aaload, 1) := by decide +kernel
theorem dX2_protect_22 : decode cX2_protect 22 = .ok (.astore 5, 2) := by decide +kernel
theorem dX2_protect_24 : decode cX2_protect 24 = .ok (.aload 5, 2) := by decide +kernel
theorem dX2_protect_26 : decode cX2_protect 26 = .ok (.iconst 1, 1) := by decide +kernel
theorem dX2_protect_27 : decode cX2_protect 27 = .ok (.iload_n 2, 1) := by decide +kernel
theorem dX2_protect_28 : decode cX2_protect 28 = .ok (.invokevirtual 74, 3) := by decide +kernel
theorem dX2_protect_31 : decode cX2_protect 31 = .ok (.iload_n 3, 1) := by decide +kernel
theorem dX2_protect_32 : decode cX2_protect 32 = .ok (.if_icmp .ne 5, 3) := by decide +kernel
theorem dX2_protect_35 : decode cX2_protect 35 = .ok (.iconst 0, 1) := by decide +kernel
theorem dX2_protect_36 : decode cX2_protect 36 = .ok (.ireturn, 1) := by decide +kernel
theorem dX2_protect_37 : decode cX2_protect 37 = .ok (.aload 5, 2) := by decide +kernel
theorem dX2_protect_39 : decode cX2_protect 39 = .ok (.iconst 1, 1) := by decide +kernel
theorem dX2_protect_40 : decode cX2_protect 40 = .ok (.iload_n 2, 1) := by decide +kernel
theorem dX2_protect_41 : decode cX2_protect 41 = .ok (.invokevirtual 86, 3) := by decide +kernel
theorem dX2_protect_44 : decode cX2_protect 44 = .ok (.iconst 1, 1) := by decide +kernel
theorem dX2_protect_45 : decode cX2_protect 45 = .ok (.ireturn, 1) := by decide +kernel
theorem dX2_write_0 : decode cX2_write 0 = .ok (.aload_n 0, 1) := by decide +kernel
theorem dX2_write_1 : decode cX2_write 1 = .ok (.iload_n 1, 1) := by decide +kernel
theorem dX2_write_2 : decode cX2_write 2 = .ok (.iload_n 2, 1) := by decide +kernel
theorem dX2_write_3 : decode cX2_write 3 = .ok (.invokevirtual 90, 3) := by decide +kernel
theorem dX2_write_6 : decode cX2_write 6 = .ok (.istore 4, 2) := by decide +kernel
theorem dX2_write_8 : decode cX2_write 8 = .ok (.iload 4, 2) := by decide +kernel
theorem dX2_write_10 : decode cX2_write 10 = .ok (.ifCond .eq 6, 3) := by decide +kernel
theorem dX2_write_13 : decode cX2_write 13 = .ok (.iload 4, 2) := by decide +kernel
theorem dX2_write_15 : decode cX2_write 15 = .ok (.ireturn, 1) := by decide +kernel
theorem dX2_write_16 : decode cX2_write 16 = .ok (.aload_n 0, 1) := by decide +kernel
theorem dX2_write_17 : decode cX2_write 17 = .ok (.getfield 11, 3) := by decide +kernel
theorem dX2_write_20 : decode cX2_write 20 = .ok (.iload_n 1, 1) := by decide +kernel
theorem dX2_write_21 : decode cX2_write 21 = .ok (.aaload, 1) := by decide +kernel
theorem dX2_write_22 : decode cX2_write 22 = .ok (.astore 5, 2) := by decide +kernel
theorem dX2_write_24 : decode cX2_write 24 = .ok (.iload_n 2, 1) := by decide +kernel
theorem dX2_write_25 : decode cX2_write 25 = .ok (.iconst 4, 1) := by decide +kernel
theorem dX2_write_26 : decode cX2_write 26 = .ok (.idiv, 1) := by decide +kernel
theorem dX2_write_27 : decode cX2_write 27 = .ok (.istore 6, 2) := by decide +kernel
theorem dX2_write_29 : decode cX2_write 29 = .ok (.aload 5, 2) := by decide +kernel
theorem dX2_write_31 : decode cX2_write 31 = .ok (.iconst 1, 1) := by decide +kernel
theorem dX2_write_32 : decode cX2_write 32 = .ok (.iload 6, 2) := by decide +kernel
theorem dX2_write_34 : decode cX2_write 34 = .ok (.invokevirtual 74, 3) := by decide +kernel
theorem dX2_write_37 : decode cX2_write 37 = .ok (.ifCond .ne 6, 3) := by decide +kernel
theorem dX2_write_40 : decode cX2_write 40 = .ok (.bipush (-5), 2) := by decide +kernel
theorem dX2_write_42 : decode cX2_write 42 = .ok (.ireturn, 1) := by decide +kernel
theorem dX2_write_43 : decode cX2_write 43 = .ok (.iconst 0, 1) := by decide +kernel
theorem dX2_write_44 : decode cX2_write 44 = .ok (.istore 7, 2) := by decide +kernel
theorem dX2_write_46 : decode cX2_write 46 = .ok (.aload 5, 2) := by decide +kernel
theorem dX2_write_48 : decode cX2_write 48 = .ok (.iconst 4, 1) := by decide +kernel
theorem dX2_write_49 : decode cX2_write 49 = .ok (.iload 6, 2) := by decide +kernel
theorem dX2_write_51 : decode cX2_write 51 = .ok (.invokevirtual 74, 3) := by decide +kernel
theorem dX2_write_54 : decode cX2_write 54 = .ok (.ifCond .eq 21, 3) := by decide +kernel
theorem dX2_write_57 : decode cX2_write 57 = .ok (.aload_n 0, 1) := by decide +kernel
theorem dX2_write_58 : decode cX2_write 58 = .ok (.aload 5, 2) := by decide +kernel
theorem dX2_write_60 : decode cX2_write 60 = .ok (.iload 6, 2) := by decide +kernel
theorem dX2_write_62 : decode cX2_write 62 = .ok (.invokevirtual 93, 3) := by decide +kernel
theorem dX2_write_65 : decode cX2_write 65 = .ok (.istore 7, 2) := by decide +kernel
theorem dX2_write_67 : decode cX2_write 67 = .ok (.iload 7, 2) := by decide +kernel
theorem dX2_write_69 : decode cX2_write 69 = .ok (.ifCond .ge 6, 3) := by decide +kernel
theorem dX2_write_72 : decode cX2_write 72 = .ok (.iload 7, 2) := by decide +kernel
theorem dX2_write_74 : decode cX2_write 74 = .ok (.ireturn, 1) := by decide +kernel
theorem dX2_write_75 : decode cX2_write 75 = .ok (.aload_n 0, 1) := by decide +kernel
theorem dX2_write_76 : decode cX2_write 76 = .ok (.getfield 19, 3) := by decide +kernel
theorem dX2_write_79 : decode cX2_write 79 = .ok (.getfield 97, 3) := by decide +kernel
theorem dX2_write_82 : decode cX2_write 82 = .ok (.aload 5, 2) := by decide +kernel
theorem dX2_write_84 : decode cX2_write 84 = .ok (.getfield 78, 3) := by decide +kernel
theorem dX2_write_87 : decode cX2_write 87 = .ok (.iload 6, 2) := by decide +kernel
theorem dX2_write_89 : decode cX2_write 89 = .ok (.iaload, 1) := by decide +kernel
theorem dX2_write_90 : decode cX2_write 90 = .ok (.iconst 4, 1) := by decide +kernel
theorem dX2_write_91 : decode cX2_write 91 = .ok (.imul, 1) := by decide +kernel
theorem dX2_write_92 : decode cX2_write 92 = .ok (.iload_n 2, 1) := by decide +kernel
theorem dX2_write_93 : decode cX2_write 93 = .ok (.iconst 4, 1) := by decide +kernel
theorem dX2_write_94 : decode cX2_write 94 = .ok (.irem, 1) := by decide +kernel
theorem dX2_write_95 : decode cX2_write 95 = .ok (.iadd, 1) := by decide +kernel
theorem dX2_write_96 : decode cX2_write 96 = .ok (.iload_n 3, 1) := by decide +kernel
theorem dX2_write_97 : decode cX2_write 97 = .ok (.iastore, 1) := by decide +kernel
theorem dX2_write_98 : decode cX2_write 98 = .ok (.iload 7, 2) := by decide +kernel
theorem dX2_write_100 : decode cX2_write 100 = .ok (.ireturn, 1) := by decide +kernel
theorem dX2_read_0 : decode cX2_read 0 = .ok (.aload_n 0, 1) := by decide +kernel
theorem dX2_read_1 : decode cX2_read 1 = .ok (.iload_n 1, 1) := by decide +kernel
theorem dX2_read_2 : decode cX2_read 2 = .ok (.iload_n 2, 1) := by decide +kernel
theorem dX2_read_3 : decode cX2_read 3 = .ok (.invokevirtual 90, 3) := by decide +kernel
theorem dX2_read_6 : decode cX2_read 6 = .ok (.ifCond .eq 7, 3) := by decide +kernel
theorem dX2_read_9 : decode cX2_read 9 = .ok (.ldc2_w 100, 3) := by decide +kernel
theorem dX2_read_12 : decode cX2_read 12 = .ok (.lreturn, 1) := by decide +kernel
theorem dX2_read_13 : decode cX2_read 13 = .ok (.aload_n 0, 1) := by decide +kernel
theorem dX2_read_14 : decode cX2_read 14 = .ok (.getfield 11, 3) := by decide +kernel
theorem dX2_read_17 : decode cX2_read 17 = .ok (.iload_n 1, 1) := by decide +kernel
theorem dX2_read_18 : decode cX2_read 18 = .ok (.aaload, 1) := by decide +kernel
theorem dX2_read_19 : decode cX2_read 19 = .ok (.getfield 78, 3) := by decide +kernel
theorem dX2_read_22 : decode cX2_read 22 = .ok (.iload_n 2, 1) := by decide +kernel
theorem dX2_read_23 : decode cX2_read 23 = .ok (.iconst 4, 1) := by decide +kernel
theorem dX2_read_24 : decode cX2_read 24 = .ok (.idiv, 1) := by decide +kernel
theorem dX2_read_25 : decode cX2_read 25 = .ok (.iaload, 1) := by decide +kernel
theorem dX2_read_26 : decode cX2_read 26 = .ok (.istore_n 3, 1) := by decide +kernel
theorem dX2_read_27 : decode cX2_read 27 = .ok (.aload_n 0, 1) := by decide +kernel
theorem dX2_read_28 : decode cX2_read 28 = .ok (.getfield 19, 3) := by decide +kernel
theorem dX2_read_31 : decode cX2_read 31 = .ok (.getfield 97, 3) := by decide +kernel
theorem dX2_read_34 : decode cX2_read 34 = .ok (.iload_n 3, 1) := by decide +kernel
theorem dX2_read_35 : decode cX2_read 35 = .ok (.iconst 4, 1) := by decide +kernel
theorem dX2_read_36 : decode cX2_read 36 = .ok (.imul, 1) := by decide +kernel
theorem dX2_read_37 : decode cX2_read 37 = .ok (.iload_n 2, 1) := by decide +kernel
theorem dX2_read_38 : decode cX2_read 38 = .ok (.iconst 4, 1) := by decide +kernel
theorem dX2_read_39 : decode cX2_read 39 = .ok (.irem, 1) := by decide +kernel
theorem dX2_read_40 : decode cX2_read 40 = .ok (.iadd, 1) := by decide +kernel
theorem dX2_read_41 : decode cX2_read 41 = .ok (.iaload, 1) := by decide +kernel
theorem dX2_read_42 : decode cX2_read 42 = .ok (.i2l, 1) := by decide +kernel
theorem dX2_read_43 : decode cX2_read 43 = .ok (.lreturn, 1) := by decide +kernel
theorem dX2_free_0 : decode cX2_free 0 = .ok (.aload_n 0, 1) := by decide +kernel
theorem dX2_free_1 : decode cX2_free 1 = .ok (.invokevirtual 27, 3) := by decide +kernel
theorem dX2_free_4 : decode cX2_free 4 = .ok (.ireturn, 1) := by decide +kernel
theorem dX2_tables_0 : decode cX2_tables 0 = .ok (.aload_n 0, 1) := by decide +kernel
theorem dX2_tables_1 : decode cX2_tables 1 = .ok (.iload_n 1, 1) := by decide +kernel
theorem dX2_tables_2 : decode cX2_tables 2 = .ok (.invokevirtual 38, 3) := by decide +kernel
theorem dX2_tables_5 : decode cX2_tables 5 = .ok (.ifCond .eq 15, 3) := by decide +kernel
theorem dX2_tables_8 : decode cX2_tables 8 = .ok (.aload_n 0, 1) := by decide +kernel
theorem dX2_tables_9 : decode cX2_tables 9 = .ok (.getfield 11, 3) := by decide +kernel
theorem dX2_tables_12 : decode cX2_tables 12 = .ok (.iload_n 1, 1) := by decide +kernel
theorem dX2_tables_13 : decode cX2_tables 13 = .ok (.aaload, 1) := by decide +kernel
theorem dX2_tables_14 : decode cX2_tables 14 = .ok (.invokevirtual 42, 3) := by decide +kernel
theorem dX2_tables_17 : decode cX2_tables 17 = .ok (.goto 4, 3) := by decide +kernel
theorem dX2_tables_20 : decode cX2_tables 20 = .ok (.iconst (-1), 1) := by decide +kernel
theorem dX2_tables_21 : decode cX2_tables 21 = .ok (.ireturn, 1) := by decide +kernel
theorem dX2_pages_0 : decode cX2_pages 0 = .ok (.aload_n 0, 1) := by decide +kernel
theorem dX2_pages_1 : decode cX2_pages 1 = .ok (.iload_n 1, 1) := by decide +kernel
theorem dX2_pages_2 : decode cX2_pages 2 = .ok (.invokevirtual 38, 3) := by decide +kernel
theorem dX2_pages_5 : decode cX2_pages 5 = .ok (.ifCond .eq 18, 3) := by decide +kernel
theorem dX2_pages_8 : decode cX2_pages 8 = .ok (.aload_n 0, 1) := by decide +kernel
theorem dX2_pages_9 : decode cX2_pages 9 = .ok (.getfield 11, 3) := by decide +kernel
theorem dX2_pages_12 : decode cX2_pages 12 = .ok (.iload_n 1, 1) := by decide +kernel
theorem dX2_pages_13 : decode cX2_pages 13 = .ok (.aaload, 1) := by decide +kernel
theorem dX2_pages_14 : decode cX2_pages 14 = .ok (.getfield 102, 3) := by decide +kernel
theorem dX2_pages_17 : decode cX2_pages 17 = .ok (.invokestatic 106, 3) := by decide +kernel
theorem dX2_pages_20 : decode cX2_pages 20 = .ok (.goto 4, 3) := by decide +kernel
theorem dX2_pages_23 : decode cX2_pages 23 = .ok (.iconst (-1), 1) := by decide +kernel
theorem dX2_pages_24 : decode cX2_pages 24 = .ok (.ireturn, 1) := by decide +kernel
theorem dX2_count_0 : decode cX2_count 0 = .ok (.aload_n 0, 1) := by decide +kernel
theorem dX2_count_1 : decode cX2_count 1 = .ok (.iload_n 1, 1) := by decide +kernel
theorem dX2_count_2 : decode cX2_count 2 = .ok (.iload_n 2, 1) := by decide +kernel
theorem dX2_count_3 : decode cX2_count 3 = .ok (.invokevirtual 82, 3) := by decide +kernel
theorem dX2_count_6 : decode cX2_count 6 = .ok (.istore_n 3, 1) := by decide +kernel
theorem dX2_count_7 : decode cX2_count 7 = .ok (.iload_n 3, 1) := by decide +kernel
theorem dX2_count_8 : decode cX2_count 8 = .ok (.ifCond .eq 5, 3) := by decide +kernel
theorem dX2_count_11 : decode cX2_count 11 = .ok (.iload_n 3, 1) := by decide +kernel
theorem dX2_count_12 : decode cX2_count 12 = .ok (.ireturn, 1) := by decide +kernel
theorem dX2_count_13 : decode cX2_count 13 = .ok (.aload_n 0, 1) := by decide +kernel
theorem dX2_count_14 : decode cX2_count 14 = .ok (.getfield 19, 3) := by decide +kernel
theorem dX2_count_17 : decode cX2_count 17 = .ok (.getfield 111, 3) := by decide +kernel
theorem dX2_count_20 : decode cX2_count 20 = .ok (.aload_n 0, 1) := by decide +kernel
theorem dX2_count_21 : decode cX2_count 21 = .ok (.getfield 11, 3) := by decide +kernel
theorem dX2_count_24 : decode cX2_count 24 = .ok (.iload_n 1, 1) := by decide +kernel
theorem dX2_count_25 : decode cX2_count 25 = .ok (.aaload, 1) := by decide +kernel
theorem dX2_count_26 : decode cX2_count 26 = .ok (.getfield 78, 3) := by decide +kernel
theorem dX2_count_29 : decode cX2_count 29 = .ok (.iload_n 2, 1) := by decide +kernel
theorem dX2_count_30 : decode cX2_count 30 = .ok (.iaload, 1) := by decide +kernel
theorem dX2_count_31 : decode cX2_count 31 = .ok (.iaload, 1) := by decide +kernel
theorem dX2_count_32 : decode cX2_count 32 = .ok (.ireturn, 1) := by decide +kernel
theorem dX2_mapping_0 : decode cX2_mapping 0 = .ok (.aload_n 0, 1) := by decide +kernel
theorem dX2_mapping_1 : decode cX2_mapping 1 = .ok (.iload_n 1, 1) := by decide +kernel
theorem dX2_mapping_2 : decode cX2_mapping 2 = .ok (.iload_n 2, 1) := by decide +kernel
theorem dX2_mapping_3 : decode cX2_mapping 3 = .ok (.invokevirtual 82, 3) := by decide +kernel
theorem dX2_mapping_6 : decode cX2_mapping 6 = .ok (.istore_n 3, 1) := by decide +kernel
theorem dX2_mapping_7 : decode cX2_mapping 7 = .ok (.iload_n 3, 1) := by decide +kernel
theorem dX2_mapping_8 : decode cX2_mapping 8 = .ok (.ifCond .eq 5, 3) := by decide +kernel
theorem dX2_mapping_11 : decode cX2_mapping 11 = .ok (.iload_n 3, 1) := by decide +kernel
theorem dX2_mapping_12 : decode cX2_mapping 12 = .ok (.ireturn, 1) := by decide +kernel
theorem dX2_mapping_13 : decode cX2_mapping 13 = .ok (.aload_n 0, 1) := by decide +kernel
theorem dX2_mapping_14 : decode cX2_mapping 14 = .ok (.getfield 11, 3) := by decide +kernel
theorem dX2_mapping_17 : decode cX2_mapping 17 = .ok (.iload_n 1, 1) := by decide +kernel
theorem dX2_mapping_18 : decode cX2_mapping 18 = .ok (.aaload, 1) := by decide +kernel
theorem dX2_mapping_19 : decode cX2_mapping 19 = .ok (.getfield 114, 3) := by decide +kernel
theorem dX2_mapping_22 : decode cX2_mapping 22 = .ok (.iload_n 2, 1) := by decide +kernel
theorem dX2_mapping_23 : decode cX2_mapping 23 = .ok (.iaload, 1) := by decide +kernel
theorem dX2_mapping_24 : decode cX2_mapping 24 = .ok (.ireturn, 1) := by decide +kernel
theorem dX2_twin_0 : decode cX2_twin 0 = .ok (.aload_n 0, 1) := by decide +kernel
theorem dX2_twin_1 : decode cX2_twin 1 = .ok (.iload_n 3, 1) := by decide +kernel
theorem dX2_twin_2 : decode cX2_twin 2 = .ok (.invokevirtual 38, 3) := by decide +kernel
theorem dX2_twin_5 : decode cX2_twin 5 = .ok (.ifCond .ne 5, 3) := by decide +kernel
theorem dX2_twin_8 : decode cX2_twin 8 = .ok (.iconst (-1), 1) := by decide +kernel
theorem dX2_twin_9 : decode cX2_twin 9 = .ok (.ireturn, 1) := by decide +kernel
theorem dX2_twin_10 : decode cX2_twin 10 = .ok (.aload_n 0, 1) := by decide +kernel
theorem dX2_twin_11 : decode cX2_twin 11 = .ok (.iload_n 1, 1) := by decide +kernel
theorem dX2_twin_12 : decode cX2_twin 12 = .ok (.iload_n 2, 1) := by decide +kernel
theorem dX2_twin_13 : decode cX2_twin 13 = .ok (.invokevirtual 82, 3) := by decide +kernel
theorem dX2_twin_16 : decode cX2_twin 16 = .ok (.istore 5, 2) := by decide +kernel
theorem dX2_twin_18 : decode cX2_twin 18 = .ok (.iload 5, 2) := by decide +kernel
theorem dX2_twin_20 : decode cX2_twin 20 = .ok (.ifCond .eq 6, 3) := by decide +kernel
theorem dX2_twin_23 : decode cX2_twin 23 = .ok (.iload 5, 2) := by decide +kernel
theorem dX2_twin_25 : decode cX2_twin 25 = .ok (.ireturn, 1) := by decide +kernel
theorem dX2_twin_26 : decode cX2_twin 26 = .ok (.aload_n 0, 1) := by decide +kernel
theorem dX2_twin_27 : decode cX2_twin 27 = .ok (.getfield 11, 3) := by decide +kernel
theorem dX2_twin_30 : decode cX2_twin 30 = .ok (.iload_n 1, 1) := by decide +kernel
theorem dX2_twin_31 : decode cX2_twin 31 = .ok (.aaload, 1) := by decide +kernel
theorem dX2_twin_32 : decode cX2_twin 32 = .ok (.getfield 78, 3) := by decide +kernel
theorem dX2_twin_35 : decode cX2_twin 35 = .ok (.iload_n 2, 1) := by decide +kernel
theorem dX2_twin_36 : decode cX2_twin 36 = .ok (.iaload, 1) := by decide +kernel
theorem dX2_twin_37 : decode cX2_twin 37 = .ok (.istore 6, 2) := by decide +kernel
theorem dX2_twin_39 : decode cX2_twin 39 = .ok (.aload_n 0, 1) := by decide +kernel
theorem dX2_twin_40 : decode cX2_twin 40 = .ok (.getfield 11, 3) := by decide +kernel
theorem dX2_twin_43 : decode cX2_twin 43 = .ok (.iload_n 3, 1) := by decide +kernel
theorem dX2_twin_44 : decode cX2_twin 44 = .ok (.aaload, 1) := by decide +kernel
theorem dX2_twin_45 : decode cX2_twin 45 = .ok (.astore 7, 2) := by decide +kernel
theorem dX2_twin_47 : decode cX2_twin 47 = .ok (.iconst 0, 1) := by decide +kernel
theorem dX2_twin_48 : decode cX2_twin 48 = .ok (.istore 8, 2) := by decide +kernel
theorem dX2_twin_50 : decode cX2_twin 50 = .ok (.iload 8, 2) := by decide +kernel
theorem dX2_twin_52 : decode cX2_twin 52 = .ok (.bipush 64, 2) := by decide +kernel
theorem dX2_twin_54 : decode cX2_twin 54 = .ok (.if_icmp .ge 42, 3) := by decide +kernel
theorem dX2_twin_57 : decode cX2_twin 57 = .ok (.iload 8, 2) := by decide +kernel
theorem dX2_twin_59 : decode cX2_twin 59 = .ok (.iload 4, 2) := by decide +kernel
theorem dX2_twin_61 : decode cX2_twin 61 = .ok (.if_icmp .le 29, 3) := by decide +kernel
theorem dX2_twin_64 : decode cX2_twin 64 = .ok (.aload 7, 2) := by decide +kernel
theorem dX2_twin_66 : decode cX2_twin 66 = .ok (.iload 8, 2) := by decide +kernel
theorem dX2_twin_68 : decode cX2_twin 68 = .ok (.invokevirtual 45, 3) := by decide +kernel
theorem dX2_twin_71 : decode cX2_twin 71 = .ok (.ifCond .eq 19, 3) := by decide +kernel
theorem dX2_twin_74 : decode cX2_twin 74 = .ok (.aload 7, 2) := by decide +kernel
theorem dX2_twin_76 : decode cX2_twin 76 = .ok (.getfield 78, 3) := by decide +kernel
theorem dX2_twin_79 : decode cX2_twin 79 = .ok (.iload 8, 2) := by decide +kernel
theorem dX2_twin_81 : decode cX2_twin 81 = .ok (.iaload, 1) := by decide +kernel
theorem dX2_twin_82 : decode cX2_twin 82 = .ok (.iload 6, 2) := by decide +kernel
theorem dX2_twin_84 : decode cX2_twin 84 = .ok (.if_icmp .ne 6, 3) := by decide +kernel
theorem dX2_twin_87 : decode cX2_twin 87 = .ok (.iload 8, 2) := by decide +kernel
theorem dX2_twin_89 : decode cX2_twin 89 = .ok (.ireturn, 1) := by decide +kernel
theorem dX2_twin_90 : decode cX2_twin 90 = .ok (.iinc 8 1, 3) := by decide +kernel
theorem dX2_twin_93 : decode cX2_twin 93 = .ok (.goto (-43), 3) := by decide +kernel
theorem dX2_twin_96 : decode cX2_twin 96 = .ok (.bipush 64, 2) := by decide +kernel
theorem dX2_twin_98 : decode cX2_twin 98 = .ok (.ireturn, 1) := by decide +kernel
theorem dX2_running_0 : decode cX2_running 0 = .ok (.iconst 0, 1) := by decide +kernel
theorem dX2_running_1 : decode cX2_running 1 = .ok (.istore_n 1, 1) := by decide +kernel
theorem dX2_running_2 : decode cX2_running 2 = .ok (.iconst 0, 1) := by decide +kernel
theorem dX2_running_3 : decode cX2_running 3 = .ok (.istore_n 2, 1) := by decide +kernel
theorem dX2_running_4 : decode cX2_running 4 = .ok (.iload_n 2, 1) := by decide +kernel
theorem dX2_running_5 : decode cX2_running 5 = .ok (.iconst 5, 1) := by decide +kernel
theorem dX2_running_6 : decode cX2_running 6 = .ok (.if_icmp .ge 27, 3) := by decide +kernel
theorem dX2_running_9 : decode cX2_running 9 = .ok (.aload_n 0, 1) := by decide +kernel
theorem dX2_running_10 : decode cX2_running 10 = .ok (.getfield 11, 3) := by decide +kernel
theorem dX2_running_13 : decode cX2_running 13 = .ok (.iload_n 2, 1) := by decide +kernel
theorem dX2_running_14 : decode cX2_running 14 = .ok (.aaload, 1) := by decide +kernel
theorem dX2_running_15 : decode cX2_running 15 = .ok (.getfield 34, 3) := by decide +kernel
theorem dX2_running_18 : decode cX2_running 18 = .ok (.ifCond .eq 9, 3) := by decide +kernel
theorem dX2_running_21 : decode cX2_running 21 = .ok (.iload_n 1, 1) := by decide +kernel
theorem dX2_running_22 : decode cX2_running 22 = .ok (.iconst 1, 1) := by decide +kernel
theorem dX2_running_23 : decode cX2_running 23 = .ok (.iload_n 2, 1) := by decide +kernel
theorem dX2_running_24 : decode cX2_running 24 = .ok (.ishl, 1) := by decide +kernel
theorem dX2_running_25 : decode cX2_running 25 = .ok (.iadd, 1) := by decide +kernel
theorem dX2_running_26 : decode cX2_running 26 = .ok (.istore_n 1, 1) := by decide +kernel
theorem dX2_running_27 : decode cX2_running 27 = .ok (.iinc 2 1, 3) := by decide +kernel
theorem dX2_running_30 : decode cX2_running 30 = .ok (.goto (-26), 3) := by decide +kernel
theorem dX2_running_33 : decode cX2_running 33 = .ok (.iload_n 1, 1) := by decide +kernel
theorem dX2_running_34 : decode cX2_running 34 = .ok (.ireturn, 1) := by decide +kernel
theorem dX2_faults_0 : decode cX2_faults 0 = .ok (.iload_n 1, 1) := by decide +kernel
theorem dX2_faults_1 : decode cX2_faults 1 = .ok (.ifCond .eq 10, 3) := by decide +kernel
theorem dX2_faults_4 : decode cX2_faults 4 = .ok (.aload_n 0, 1) := by decide +kernel
theorem dX2_faults_5 : decode cX2_faults 5 = .ok (.getfield 117, 3) := by decide +kernel
theorem dX2_faults_8 : decode cX2_faults 8 = .ok (.goto 7, 3) := by decide +kernel
theorem dX2_faults_11 : decode cX2_faults 11 = .ok (.aload_n 0, 1) := by decide +kernel
theorem dX2_faults_12 : decode cX2_faults 12 = .ok (.getfield 121, 3) := by decide +kernel
theorem dX2_faults_15 : decode cX2_faults 15 = .ok (.ireturn, 1) := by decide +kernel
theorem dX2_isRunning_0 : decode cX2_isRunning 0 = .ok (.iload_n 1, 1) := by decide +kernel
theorem dX2_isRunning_1 : decode cX2_isRunning 1 = .ok (.ifCond .lt 24, 3) := by decide +kernel
theorem dX2_isRunning_4 : decode cX2_isRunning 4 = .ok (.iload_n 1, 1) := by decide +kernel
theorem dX2_isRunning_5 : decode cX2_isRunning 5 = .ok (.iconst 5, 1) := by decide +kernel
theorem dX2_isRunning_6 : decode cX2_isRunning 6 = .ok (.if_icmp .ge 19, 3) := by decide +kernel
theorem dX2_isRunning_9 : decode cX2_isRunning 9 = .ok (.aload_n 0, 1) := by decide +kernel
theorem dX2_isRunning_10 : decode cX2_isRunning 10 = .ok (.getfield 11, 3) := by decide +kernel
theorem dX2_isRunning_13 : decode cX2_isRunning 13 = .ok (.iload_n 1, 1) := by decide +kernel
theorem dX2_isRunning_14 : decode cX2_isRunning 14 = .ok (.aaload, 1) := by decide +kernel
theorem dX2_isRunning_15 : decode cX2_isRunning 15 = .ok (.getfield 34, 3) := by decide +kernel
theorem dX2_isRunning_18 : decode cX2_isRunning 18 = .ok (.ifCond .eq 7, 3) := by decide +kernel
theorem dX2_isRunning_21 : decode cX2_isRunning 21 = .ok (.iconst 1, 1) := by decide +kernel
theorem dX2_isRunning_22 : decode cX2_isRunning 22 = .ok (.goto 4, 3) := by decide +kernel
theorem dX2_isRunning_25 : decode cX2_isRunning 25 = .ok (.iconst 0, 1) := by decide +kernel
theorem dX2_isRunning_26 : decode cX2_isRunning 26 = .ok (.ireturn, 1) := by decide +kernel
theorem dX2_isPage_0 : decode cX2_isPage 0 = .ok (.iload_n 0, 1) := by decide +kernel
theorem dX2_isPage_1 : decode cX2_isPage 1 = .ok (.ifCond .lt 13, 3) := by decide +kernel
theorem dX2_isPage_4 : decode cX2_isPage 4 = .ok (.iload_n 0, 1) := by decide +kernel
theorem dX2_isPage_5 : decode cX2_isPage 5 = .ok (.bipush 64, 2) := by decide +kernel
theorem dX2_isPage_7 : decode cX2_isPage 7 = .ok (.if_icmp .ge 7, 3) := by decide +kernel
theorem dX2_isPage_10 : decode cX2_isPage 10 = .ok (.iconst 1, 1) := by decide +kernel
theorem dX2_isPage_11 : decode cX2_isPage 11 = .ok (.goto 4, 3) := by decide +kernel
theorem dX2_isPage_14 : decode cX2_isPage 14 = .ok (.iconst 0, 1) := by decide +kernel
theorem dX2_isPage_15 : decode cX2_isPage 15 = .ok (.ireturn, 1) := by decide +kernel
theorem dX2_refusalOfMapped_0 : decode cX2_refusalOfMapped 0 = .ok (.aload_n 0, 1) := by decide +kernel
theorem dX2_refusalOfMapped_1 : decode cX2_refusalOfMapped 1 = .ok (.iload_n 1, 1) := by decide +kernel
theorem dX2_refusalOfMapped_2 : decode cX2_refusalOfMapped 2 = .ok (.invokevirtual 38, 3) := by decide +kernel
theorem dX2_refusalOfMapped_5 : decode cX2_refusalOfMapped 5 = .ok (.ifCond .ne 5, 3) := by decide +kernel
theorem dX2_refusalOfMapped_8 : decode cX2_refusalOfMapped 8 = .ok (.iconst (-1), 1) := by decide +kernel
theorem dX2_refusalOfMapped_9 : decode cX2_refusalOfMapped 9 = .ok (.ireturn, 1) := by decide +kernel
theorem dX2_refusalOfMapped_10 : decode cX2_refusalOfMapped 10 = .ok (.iload_n 2, 1) := by decide +kernel
theorem dX2_refusalOfMapped_11 : decode cX2_refusalOfMapped 11 = .ok (.invokestatic 56, 3) := by decide +kernel
theorem dX2_refusalOfMapped_14 : decode cX2_refusalOfMapped 14 = .ok (.ifCond .ne 6, 3) := by decide +kernel
theorem dX2_refusalOfMapped_17 : decode cX2_refusalOfMapped 17 = .ok (.bipush (-2), 2) := by decide +kernel
theorem dX2_refusalOfMapped_19 : decode cX2_refusalOfMapped 19 = .ok (.ireturn, 1) := by decide +kernel
theorem dX2_refusalOfMapped_20 : decode cX2_refusalOfMapped 20 = .ok (.aload_n 0, 1) := by decide +kernel
theorem dX2_refusalOfMapped_21 : decode cX2_refusalOfMapped 21 = .ok (.getfield 11, 3) := by decide +kernel
theorem dX2_refusalOfMapped_24 : decode cX2_refusalOfMapped 24 = .ok (.iload_n 1, 1) := by decide +kernel
theorem dX2_refusalOfMapped_25 : decode cX2_refusalOfMapped 25 = .ok (.aaload, 1) := by decide +kernel
theorem dX2_refusalOfMapped_26 : decode cX2_refusalOfMapped 26 = .ok (.iload_n 2, 1) := by decide +kernel
theorem dX2_refusalOfMapped_27 : decode cX2_refusalOfMapped 27 = .ok (.invokevirtual 45, 3) := by decide +kernel
theorem dX2_refusalOfMapped_30 : decode cX2_refusalOfMapped 30 = .ok (.ifCond .eq 7, 3) := by decide +kernel
theorem dX2_refusalOfMapped_33 : decode cX2_refusalOfMapped 33 = .ok (.iconst 0, 1) := by decide +kernel
theorem dX2_refusalOfMapped_34 : decode cX2_refusalOfMapped 34 = .ok (.goto 5, 3) := by decide +kernel
theorem dX2_refusalOfMapped_37 : decode cX2_refusalOfMapped 37 = .ok (.bipush (-3), 2) := by decide +kernel
theorem dX2_refusalOfMapped_39 : decode cX2_refusalOfMapped 39 = .ok (.ireturn, 1) := by decide +kernel
theorem dX2_refusalOfAddress_0 : decode cX2_refusalOfAddress 0 = .ok (.aload_n 0, 1) := by decide +kernel
theorem dX2_refusalOfAddress_1 : decode cX2_refusalOfAddress 1 = .ok (.iload_n 1, 1) := by decide +kernel
theorem dX2_refusalOfAddress_2 : decode cX2_refusalOfAddress 2 = .ok (.iload_n 2, 1) := by decide +kernel
theorem dX2_refusalOfAddress_3 : decode cX2_refusalOfAddress 3 = .ok (.ifCond .ge 7, 3) := by decide +kernel
theorem dX2_refusalOfAddress_6 : decode cX2_refusalOfAddress 6 = .ok (.iconst (-1), 1) := by decide +kernel
theorem dX2_refusalOfAddress_7 : decode cX2_refusalOfAddress 7 = .ok (.goto 6, 3) := by decide +kernel
theorem dX2_refusalOfAddress_10 : decode cX2_refusalOfAddress 10 = .ok (.iload_n 2, 1) := by decide +kernel
theorem dX2_refusalOfAddress_11 : decode cX2_refusalOfAddress 11 = .ok (.iconst 4, 1) := by decide +kernel
theorem dX2_refusalOfAddress_12 : decode cX2_refusalOfAddress 12 = .ok (.idiv, 1) := by decide +kernel
theorem dX2_refusalOfAddress_13 : decode cX2_refusalOfAddress 13 = .ok (.invokevirtual 82, 3) := by decide +kernel
theorem dX2_refusalOfAddress_16 : decode cX2_refusalOfAddress 16 = .ok (.ireturn, 1) := by decide +kernel
theorem dX2_leastIdle_0 : decode cX2_leastIdle 0 = .ok (.iconst 0, 1) := by decide +kernel
theorem dX2_leastIdle_1 : decode cX2_leastIdle 1 = .ok (.istore_n 1, 1) := by decide +kernel
theorem dX2_leastIdle_2 : decode cX2_leastIdle 2 = .ok (.iload_n 1, 1) := by decide +kernel
theorem dX2_leastIdle_3 : decode cX2_leastIdle 3 = .ok (.iconst 5, 1) := by decide +kernel
theorem dX2_leastIdle_4 : decode cX2_leastIdle 4 = .ok (.if_icmp .ge 23, 3) := by decide +kernel
theorem dX2_leastIdle_7 : decode cX2_leastIdle 7 = .ok (.aload_n 0, 1) := by decide +kernel
theorem dX2_leastIdle_8 : decode cX2_leastIdle 8 = .ok (.getfield 11, 3) := by decide +kernel
theorem dX2_leastIdle_11 : decode cX2_leastIdle 11 = .ok (.iload_n 1, 1) := by decide +kernel
theorem dX2_leastIdle_12 : decode cX2_leastIdle 12 = .ok (.aaload, 1) := by decide +kernel
theorem dX2_leastIdle_13 : decode cX2_leastIdle 13 = .ok (.getfield 34, 3) := by decide +kernel
theorem dX2_leastIdle_16 : decode cX2_leastIdle 16 = .ok (.ifCond .ne 5, 3) := by decide +kernel
theorem dX2_leastIdle_19 : decode cX2_leastIdle 19 = .ok (.iload_n 1, 1) := by decide +kernel
theorem dX2_leastIdle_20 : decode cX2_leastIdle 20 = .ok (.ireturn, 1) := by decide +kernel
theorem dX2_leastIdle_21 : decode cX2_leastIdle 21 = .ok (.iinc 1 1, 3) := by decide +kernel
theorem dX2_leastIdle_24 : decode cX2_leastIdle 24 = .ok (.goto (-22), 3) := by decide +kernel
theorem dX2_leastIdle_27 : decode cX2_leastIdle 27 = .ok (.iconst (-1), 1) := by decide +kernel
theorem dX2_leastIdle_28 : decode cX2_leastIdle 28 = .ok (.ireturn, 1) := by decide +kernel
theorem dX2_freeFrames_0 : decode cX2_freeFrames 0 = .ok (.bipush 24, 2) := by decide +kernel
theorem dX2_freeFrames_2 : decode cX2_freeFrames 2 = .ok (.aload_n 0, 1) := by decide +kernel
theorem dX2_freeFrames_3 : decode cX2_freeFrames 3 = .ok (.getfield 19, 3) := by decide +kernel
theorem dX2_freeFrames_6 : decode cX2_freeFrames 6 = .ok (.invokevirtual 124, 3) := by decide +kernel
theorem dX2_freeFrames_9 : decode cX2_freeFrames 9 = .ok (.isub, 1) := by decide +kernel
theorem dX2_freeFrames_10 : decode cX2_freeFrames 10 = .ok (.istore_n 1, 1) := by decide +kernel
theorem dX2_freeFrames_11 : decode cX2_freeFrames 11 = .ok (.iconst 0, 1) := by decide +kernel
theorem dX2_freeFrames_12 : decode cX2_freeFrames 12 = .ok (.istore_n 2, 1) := by decide +kernel
theorem dX2_freeFrames_13 : decode cX2_freeFrames 13 = .ok (.iload_n 2, 1) := by decide +kernel
theorem dX2_freeFrames_14 : decode cX2_freeFrames 14 = .ok (.iconst 5, 1) := by decide +kernel
theorem dX2_freeFrames_15 : decode cX2_freeFrames 15 = .ok (.if_icmp .ge 33, 3) := by decide +kernel
theorem dX2_freeFrames_18 : decode cX2_freeFrames 18 = .ok (.aload_n 0, 1) := by decide +kernel
theorem dX2_freeFrames_19 : decode cX2_freeFrames 19 = .ok (.getfield 11, 3) := by decide +kernel
theorem dX2_freeFrames_22 : decode cX2_freeFrames 22 = .ok (.iload_n 2, 1) := by decide +kernel
theorem dX2_freeFrames_23 : decode cX2_freeFrames 23 = .ok (.aaload, 1) := by decide +kernel
theorem dX2_freeFrames_24 : decode cX2_freeFrames 24 = .ok (.getfield 34, 3) := by decide +kernel
theorem dX2_freeFrames_27 : decode cX2_freeFrames 27 = .ok (.ifCond .eq 15, 3) := by decide +kernel
theorem dX2_freeFrames_30 : decode cX2_freeFrames 30 = .ok (.iload_n 1, 1) := by decide +kernel
theorem dX2_freeFrames_31 : decode cX2_freeFrames 31 = .ok (.aload_n 0, 1) := by decide +kernel
theorem dX2_freeFrames_32 : decode cX2_freeFrames 32 = .ok (.getfield 11, 3) := by decide +kernel
theorem dX2_freeFrames_35 : decode cX2_freeFrames 35 = .ok (.iload_n 2, 1) := by decide +kernel
theorem dX2_freeFrames_36 : decode cX2_freeFrames 36 = .ok (.aaload, 1) := by decide +kernel
theorem dX2_freeFrames_37 : decode cX2_freeFrames 37 = .ok (.invokevirtual 42, 3) := by decide +kernel
theorem dX2_freeFrames_40 : decode cX2_freeFrames 40 = .ok (.isub, 1) := by decide +kernel
theorem dX2_freeFrames_41 : decode cX2_freeFrames 41 = .ok (.istore_n 1, 1) := by decide +kernel
theorem dX2_freeFrames_42 : decode cX2_freeFrames 42 = .ok (.iinc 2 1, 3) := by decide +kernel
theorem dX2_freeFrames_45 : decode cX2_freeFrames 45 = .ok (.goto (-32), 3) := by decide +kernel
theorem dX2_freeFrames_48 : decode cX2_freeFrames 48 = .ok (.iload_n 1, 1) := by decide +kernel
theorem dX2_freeFrames_49 : decode cX2_freeFrames 49 = .ok (.ireturn, 1) := by decide +kernel
theorem dX2_startMapping_0 : decode cX2_startMapping 0 = .ok (.aload_n 1, 1) := by decide +kernel
theorem dX2_startMapping_1 : decode cX2_startMapping 1 = .ok (.iload_n 2, 1) := by decide +kernel
theorem dX2_startMapping_2 : decode cX2_startMapping 2 = .ok (.iload_n 3, 1) := by decide +kernel
theorem dX2_startMapping_3 : decode cX2_startMapping 3 = .ok (.iload 4, 2) := by decide +kernel
theorem dX2_startMapping_5 : decode cX2_startMapping 5 = .ok (.invokevirtual 127, 3) := by decide +kernel
theorem dX2_startMapping_8 : decode cX2_startMapping 8 = .ok (.aload_n 0, 1) := by decide +kernel
theorem dX2_startMapping_9 : decode cX2_startMapping 9 = .ok (.getfield 19, 3) := by decide +kernel
theorem dX2_startMapping_12 : decode cX2_startMapping 12 = .ok (.getfield 111, 3) := by decide +kernel
theorem dX2_startMapping_15 : decode cX2_startMapping 15 = .ok (.iload_n 3, 1) := by decide +kernel
theorem dX2_startMapping_16 : decode cX2_startMapping 16 = .ok (.dup2, 1) := by decide +kernel
theorem dX2_startMapping_17 : decode cX2_startMapping 17 = .ok (.iaload, 1) := by decide +kernel
theorem dX2_startMapping_18 : decode cX2_startMapping 18 = .ok (.iconst 1, 1) := by decide +kernel
theorem dX2_startMapping_19 : decode cX2_startMapping 19 = .ok (.iadd, 1) := by decide +kernel
theorem dX2_startMapping_20 : decode cX2_startMapping 20 = .ok (.iastore, 1) := by decide +kernel
theorem dX2_startMapping_21 : decode cX2_startMapping 21 = .ok (.return_, 1) := by decide +kernel
theorem dX2_endMapping_0 : decode cX2_endMapping 0 = .ok (.aload_n 0, 1) := by decide +kernel
theorem dX2_endMapping_1 : decode cX2_endMapping 1 = .ok (.getfield 19, 3) := by decide +kernel
theorem dX2_endMapping_4 : decode cX2_endMapping 4 = .ok (.getfield 111, 3) := by decide +kernel
theorem dX2_endMapping_7 : decode cX2_endMapping 7 = .ok (.aload_n 1, 1) := by decide +kernel
theorem dX2_endMapping_8 : decode cX2_endMapping 8 = .ok (.getfield 78, 3) := by decide +kernel
theorem dX2_endMapping_11 : decode cX2_endMapping 11 = .ok (.iload_n 2, 1) := by decide +kernel
theorem dX2_endMapping_12 : decode cX2_endMapping 12 = .ok (.iaload, 1) := by decide +kernel
theorem dX2_endMapping_13 : decode cX2_endMapping 13 = .ok (.dup2, 1) := by decide +kernel
theorem dX2_endMapping_14 : decode cX2_endMapping 14 = .ok (.iaload, 1) := by decide +kernel
theorem dX2_endMapping_15 : decode cX2_endMapping 15 = .ok (.iconst 1, 1) := by decide +kernel
theorem dX2_endMapping_16 : decode cX2_endMapping 16 = .ok (.isub, 1) := by decide +kernel
theorem dX2_endMapping_17 : decode cX2_endMapping 17 = .ok (.iastore, 1) := by decide +kernel
theorem dX2_endMapping_18 : decode cX2_endMapping 18 = .ok (.aload_n 1, 1) := by decide +kernel
theorem dX2_endMapping_19 : decode cX2_endMapping 19 = .ok (.iload_n 2, 1) := by decide +kernel
theorem dX2_endMapping_20 : decode cX2_endMapping 20 = .ok (.invokevirtual 131, 3) := by decide +kernel
theorem dX2_endMapping_23 : decode cX2_endMapping 23 = .ok (.return_, 1) := by decide +kernel
theorem dX2_sharePage_0 : decode cX2_sharePage 0 = .ok (.aload_n 1, 1) := by decide +kernel
theorem dX2_sharePage_1 : decode cX2_sharePage 1 = .ok (.iconst 2, 1) := by decide +kernel
theorem dX2_sharePage_2 : decode cX2_sharePage 2 = .ok (.iload_n 3, 1) := by decide +kernel
theorem dX2_sharePage_3 : decode cX2_sharePage 3 = .ok (.invokevirtual 74, 3) := by decide +kernel
theorem dX2_sharePage_6 : decode cX2_sharePage 6 = .ok (.ifCond .ne 18, 3) := by decide +kernel
theorem dX2_sharePage_9 : decode cX2_sharePage 9 = .ok (.aload_n 1, 1) := by decide +kernel
theorem dX2_sharePage_10 : decode cX2_sharePage 10 = .ok (.iconst 4, 1) := by decide +kernel
theorem dX2_sharePage_11 : decode cX2_sharePage 11 = .ok (.iload_n 3, 1) := by decide +kernel
theorem dX2_sharePage_12 : decode cX2_sharePage 12 = .ok (.invokevirtual 74, 3) := by decide +kernel
theorem dX2_sharePage_15 : decode cX2_sharePage 15 = .ok (.ifCond .ne 9, 3) := by decide +kernel
theorem dX2_sharePage_18 : decode cX2_sharePage 18 = .ok (.aload_n 1, 1) := by decide +kernel
theorem dX2_sharePage_19 : decode cX2_sharePage 19 = .ok (.iconst 4, 1) := by decide +kernel
theorem dX2_sharePage_20 : decode cX2_sharePage 20 = .ok (.iload_n 3, 1) := by decide +kernel
theorem dX2_sharePage_21 : decode cX2_sharePage 21 = .ok (.invokevirtual 86, 3) := by decide +kernel
theorem dX2_sharePage_24 : decode cX2_sharePage 24 = .ok (.aload_n 0, 1) := by decide +kernel
theorem dX2_sharePage_25 : decode cX2_sharePage 25 = .ok (.aload_n 2, 1) := by decide +kernel
theorem dX2_sharePage_26 : decode cX2_sharePage 26 = .ok (.iload_n 3, 1) := by decide +kernel
theorem dX2_sharePage_27 : decode cX2_sharePage 27 = .ok (.aload_n 1, 1) := by decide +kernel
theorem dX2_sharePage_28 : decode cX2_sharePage 28 = .ok (.getfield 78, 3) := by decide +kernel
theorem dX2_sharePage_31 : decode cX2_sharePage 31 = .ok (.iload_n 3, 1) := by decide +kernel
theorem dX2_sharePage_32 : decode cX2_sharePage 32 = .ok (.iaload, 1) := by decide +kernel
theorem dX2_sharePage_33 : decode cX2_sharePage 33 = .ok (.aload_n 1, 1) := by decide +kernel
theorem dX2_sharePage_34 : decode cX2_sharePage 34 = .ok (.getfield 114, 3) := by decide +kernel
theorem dX2_sharePage_37 : decode cX2_sharePage 37 = .ok (.iload_n 3, 1) := by decide +kernel
theorem dX2_sharePage_38 : decode cX2_sharePage 38 = .ok (.iaload, 1) := by decide +kernel
theorem dX2_sharePage_39 : decode cX2_sharePage 39 = .ok (.invokevirtual 70, 3) := by decide +kernel
theorem dX2_sharePage_42 : decode cX2_sharePage 42 = .ok (.return_, 1) := by decide +kernel
theorem dX2_resolveFault_0 : decode cX2_resolveFault 0 = .ok (.aload_n 1, 1) := by decide +kernel
theorem dX2_resolveFault_1 : decode cX2_resolveFault 1 = .ok (.getfield 78, 3) := by decide +kernel
theorem dX2_resolveFault_4 : decode cX2_resolveFault 4 = .ok (.iload_n 2, 1) := by decide +kernel
theorem dX2_resolveFault_5 : decode cX2_resolveFault 5 = .ok (.iaload, 1) := by decide +kernel
theorem dX2_resolveFault_6 : decode cX2_resolveFault 6 = .ok (.istore_n 3, 1) := by decide +kernel
theorem dX2_resolveFault_7 : decode cX2_resolveFault 7 = .ok (.aload_n 0, 1) := by decide +kernel
theorem dX2_resolveFault_8 : decode cX2_resolveFault 8 = .ok (.getfield 19, 3) := by decide +kernel
theorem dX2_resolveFault_11 : decode cX2_resolveFault 11 = .ok (.getfield 111, 3) := by decide +kernel
theorem dX2_resolveFault_14 : decode cX2_resolveFault 14 = .ok (.iload_n 3, 1) := by decide +kernel
theorem dX2_resolveFault_15 : decode cX2_resolveFault 15 = .ok (.iaload, 1) := by decide +kernel
theorem dX2_resolveFault_16 : decode cX2_resolveFault 16 = .ok (.iconst 1, 1) := by decide +kernel
theorem dX2_resolveFault_17 : decode cX2_resolveFault 17 = .ok (.if_icmp .le 7, 3) := by decide +kernel
theorem dX2_resolveFault_20 : decode cX2_resolveFault 20 = .ok (.iconst 1, 1) := by decide +kernel
theorem dX2_resolveFault_21 : decode cX2_resolveFault 21 = .ok (.goto 4, 3) := by decide +kernel
theorem dX2_resolveFault_24 : decode cX2_resolveFault 24 = .ok (.iconst 0, 1) := by decide +kernel
theorem dX2_resolveFault_25 : decode cX2_resolveFault 25 = .ok (.istore 4, 2) := by decide +kernel
theorem dX2_resolveFault_27 : decode cX2_resolveFault 27 = .ok (.iload 4, 2) := by decide +kernel
theorem dX2_resolveFault_29 : decode cX2_resolveFault 29 = .ok (.ifCond .eq 14, 3) := by decide +kernel
theorem dX2_resolveFault_32 : decode cX2_resolveFault 32 = .ok (.aload_n 0, 1) := by decide +kernel
theorem dX2_resolveFault_33 : decode cX2_resolveFault 33 = .ok (.invokevirtual 27, 3) := by decide +kernel
theorem dX2_resolveFault_36 : decode cX2_resolveFault 36 = .ok (.iconst 1, 1) := by decide +kernel
theorem dX2_resolveFault_37 : decode cX2_resolveFault 37 = .ok (.if_icmp .ge 6, 3) := by decide +kernel
theorem dX2_resolveFault_40 : decode cX2_resolveFault 40 = .ok (.bipush (-8), 2) := by decide +kernel
theorem dX2_resolveFault_42 : decode cX2_resolveFault 42 = .ok (.ireturn, 1) := by decide +kernel
theorem dX2_resolveFault_43 : decode cX2_resolveFault 43 = .ok (.aload_n 0, 1) := by decide +kernel
theorem dX2_resolveFault_44 : decode cX2_resolveFault 44 = .ok (.dup, 1) := by decide +kernel
theorem dX2_resolveFault_45 : decode cX2_resolveFault 45 = .ok (.getfield 121, 3) := by decide +kernel
theorem dX2_resolveFault_48 : decode cX2_resolveFault 48 = .ok (.iconst 1, 1) := by decide +kernel
theorem dX2_resolveFault_49 : decode cX2_resolveFault 49 = .ok (.iadd, 1) := by decide +kernel
theorem dX2_resolveFault_50 : decode cX2_resolveFault 50 = .ok (.putfield 121, 3) := by decide +kernel
theorem dX2_resolveFault_53 : decode cX2_resolveFault 53 = .ok (.aload_n 1, 1) := by decide +kernel
theorem dX2_resolveFault_54 : decode cX2_resolveFault 54 = .ok (.iconst 4, 1) := by decide +kernel
theorem dX2_resolveFault_55 : decode cX2_resolveFault 55 = .ok (.iload_n 2, 1) := by decide +kernel
theorem dX2_resolveFault_56 : decode cX2_resolveFault 56 = .ok (.invokevirtual 86, 3) := by decide +kernel
theorem dX2_resolveFault_59 : decode cX2_resolveFault 59 = .ok (.iload 4, 2) := by decide +kernel
theorem dX2_resolveFault_61 : decode cX2_resolveFault 61 = .ok (.ifCond .ne 5, 3) := by decide +kernel
theorem dX2_resolveFault_64 : decode cX2_resolveFault 64 = .ok (.iconst 1, 1) := by decide +kernel
theorem dX2_resolveFault_65 : decode cX2_resolveFault 65 = .ok (.ireturn, 1) := by decide +kernel
theorem dX2_resolveFault_66 : decode cX2_resolveFault 66 = .ok (.aload_n 0, 1) := by decide +kernel
theorem dX2_resolveFault_67 : decode cX2_resolveFault 67 = .ok (.dup, 1) := by decide +kernel
theorem dX2_resolveFault_68 : decode cX2_resolveFault 68 = .ok (.getfield 117, 3) := by decide +kernel
theorem dX2_resolveFault_71 : decode cX2_resolveFault 71 = .ok (.iconst 1, 1) := by decide +kernel
theorem dX2_resolveFault_72 : decode cX2_resolveFault 72 = .ok (.iadd, 1) := by decide +kernel
theorem dX2_resolveFault_73 : decode cX2_resolveFault 73 = .ok (.putfield 117, 3) := by decide +kernel
theorem dX2_resolveFault_76 : decode cX2_resolveFault 76 = .ok (.aload_n 0, 1) := by decide +kernel
theorem dX2_resolveFault_77 : decode cX2_resolveFault 77 = .ok (.getfield 19, 3) := by decide +kernel
theorem dX2_resolveFault_80 : decode cX2_resolveFault 80 = .ok (.invokevirtual 63, 3) := by decide +kernel
theorem dX2_resolveFault_83 : decode cX2_resolveFault 83 = .ok (.istore 5, 2) := by decide +kernel
theorem dX2_resolveFault_85 : decode cX2_resolveFault 85 = .ok (.aload_n 0, 1) := by decide +kernel
theorem dX2_resolveFault_86 : decode cX2_resolveFault 86 = .ok (.getfield 19, 3) := by decide +kernel
theorem dX2_resolveFault_89 : decode cX2_resolveFault 89 = .ok (.iload_n 3, 1) := by decide +kernel
theorem dX2_resolveFault_90 : decode cX2_resolveFault 90 = .ok (.iload 5, 2) := by decide +kernel
theorem dX2_resolveFault_92 : decode cX2_resolveFault 92 = .ok (.invokevirtual 134, 3) := by decide +kernel
theorem dX2_resolveFault_95 : decode cX2_resolveFault 95 = .ok (.aload_n 1, 1) := by decide +kernel
theorem dX2_resolveFault_96 : decode cX2_resolveFault 96 = .ok (.getfield 114, 3) := by decide +kernel
theorem dX2_resolveFault_99 : decode cX2_resolveFault 99 = .ok (.iload_n 2, 1) := by decide +kernel
theorem dX2_resolveFault_100 : decode cX2_resolveFault 100 = .ok (.iaload, 1) := by decide +kernel
theorem dX2_resolveFault_101 : decode cX2_resolveFault 101 = .ok (.istore 6, 2) := by decide +kernel
theorem dX2_resolveFault_103 : decode cX2_resolveFault 103 = .ok (.aload_n 0, 1) := by decide +kernel
theorem dX2_resolveFault_104 : decode cX2_resolveFault 104 = .ok (.aload_n 1, 1) := by decide +kernel
theorem dX2_resolveFault_105 : decode cX2_resolveFault 105 = .ok (.iload_n 2, 1) := by decide +kernel
theorem dX2_resolveFault_106 : decode cX2_resolveFault 106 = .ok (.invokevirtual 52, 3) := by decide +kernel
theorem dX2_resolveFault_109 : decode cX2_resolveFault 109 = .ok (.aload_n 0, 1) := by decide +kernel
theorem dX2_resolveFault_110 : decode cX2_resolveFault 110 = .ok (.aload_n 1, 1) := by decide +kernel
theorem dX2_resolveFault_111 : decode cX2_resolveFault 111 = .ok (.iload_n 2, 1) := by decide +kernel
theorem dX2_resolveFault_112 : decode cX2_resolveFault 112 = .ok (.iload 5, 2) := by decide +kernel
theorem dX2_resolveFault_114 : decode cX2_resolveFault 114 = .ok (.iload 6, 2) := by decide +kernel
theorem dX2_resolveFault_116 : decode cX2_resolveFault 116 = .ok (.invokevirtual 70, 3) := by decide +kernel
theorem dX2_resolveFault_119 : decode cX2_resolveFault 119 = .ok (.iconst 2, 1) := by decide +kernel
theorem dX2_resolveFault_120 : decode cX2_resolveFault 120 = .ok (.ireturn, 1) := by decide +kernel
theorem dJ13_bitCount_95d88_0 : decode cJ13_bitCount_95d88 0 = .ok (.lload_n 0, 1) := by decide +kernel
theorem dJ13_bitCount_95d88_1 : decode cJ13_bitCount_95d88 1 = .ok (.lload_n 0, 1) := by decide +kernel
theorem dJ13_bitCount_95d88_2 : decode cJ13_bitCount_95d88 2 = .ok (.iconst 1, 1) := by decide +kernel
theorem dJ13_bitCount_95d88_3 : decode cJ13_bitCount_95d88 3 = .ok (.lushr, 1) := by decide +kernel
theorem dJ13_bitCount_95d88_4 : decode cJ13_bitCount_95d88 4 = .ok (.ldc2_w 314, 3) := by decide +kernel
theorem dJ13_bitCount_95d88_7 : decode cJ13_bitCount_95d88 7 = .ok (.land, 1) := by decide +kernel
theorem dJ13_bitCount_95d88_8 : decode cJ13_bitCount_95d88 8 = .ok (.lsub, 1) := by decide +kernel
theorem dJ13_bitCount_95d88_9 : decode cJ13_bitCount_95d88 9 = .ok (.lstore_n 0, 1) := by decide +kernel
theorem dJ13_bitCount_95d88_10 : decode cJ13_bitCount_95d88 10 = .ok (.lload_n 0, 1) := by decide +kernel
theorem dJ13_bitCount_95d88_11 : decode cJ13_bitCount_95d88 11 = .ok (.ldc2_w 316, 3) := by decide +kernel
theorem dJ13_bitCount_95d88_14 : decode cJ13_bitCount_95d88 14 = .ok (.land, 1) := by decide +kernel
theorem dJ13_bitCount_95d88_15 : decode cJ13_bitCount_95d88 15 = .ok (.lload_n 0, 1) := by decide +kernel
theorem dJ13_bitCount_95d88_16 : decode cJ13_bitCount_95d88 16 = .ok (.iconst 2, 1) := by decide +kernel
theorem dJ13_bitCount_95d88_17 : decode cJ13_bitCount_95d88 17 = .ok (.lushr, 1) := by decide +kernel
theorem dJ13_bitCount_95d88_18 : decode cJ13_bitCount_95d88 18 = .ok (.ldc2_w 316, 3) := by decide +kernel
theorem dJ13_bitCount_95d88_21 : decode cJ13_bitCount_95d88 21 = .ok (.land, 1) := by decide +kernel
theorem dJ13_bitCount_95d88_22 : decode cJ13_bitCount_95d88 22 = .ok (.ladd, 1) := by decide +kernel
theorem dJ13_bitCount_95d88_23 : decode cJ13_bitCount_95d88 23 = .ok (.lstore_n 0, 1) := by decide +kernel
theorem dJ13_bitCount_95d88_24 : decode cJ13_bitCount_95d88 24 = .ok (.lload_n 0, 1) := by decide +kernel
theorem dJ13_bitCount_95d88_25 : decode cJ13_bitCount_95d88 25 = .ok (.lload_n 0, 1) := by decide +kernel
theorem dJ13_bitCount_95d88_26 : decode cJ13_bitCount_95d88 26 = .ok (.iconst 4, 1) := by decide +kernel
theorem dJ13_bitCount_95d88_27 : decode cJ13_bitCount_95d88 27 = .ok (.lushr, 1) := by decide +kernel
theorem dJ13_bitCount_95d88_28 : decode cJ13_bitCount_95d88 28 = .ok (.ladd, 1) := by decide +kernel
theorem dJ13_bitCount_95d88_29 : decode cJ13_bitCount_95d88 29 = .ok (.ldc2_w 318, 3) := by decide +kernel
theorem dJ13_bitCount_95d88_32 : decode cJ13_bitCount_95d88 32 = .ok (.land, 1) := by decide +kernel
theorem dJ13_bitCount_95d88_33 : decode cJ13_bitCount_95d88 33 = .ok (.lstore_n 0, 1) := by decide +kernel
theorem dJ13_bitCount_95d88_34 : decode cJ13_bitCount_95d88 34 = .ok (.lload_n 0, 1) := by decide +kernel
theorem dJ13_bitCount_95d88_35 : decode cJ13_bitCount_95d88 35 = .ok (.lload_n 0, 1) := by decide +kernel
theorem dJ13_bitCount_95d88_36 : decode cJ13_bitCount_95d88 36 = .ok (.bipush 8, 2) := by decide +kernel
theorem dJ13_bitCount_95d88_38 : decode cJ13_bitCount_95d88 38 = .ok (.lushr, 1) := by decide +kernel
theorem dJ13_bitCount_95d88_39 : decode cJ13_bitCount_95d88 39 = .ok (.ladd, 1) := by decide +kernel
theorem dJ13_bitCount_95d88_40 : decode cJ13_bitCount_95d88 40 = .ok (.lstore_n 0, 1) := by decide +kernel
theorem dJ13_bitCount_95d88_41 : decode cJ13_bitCount_95d88 41 = .ok (.lload_n 0, 1) := by decide +kernel
theorem dJ13_bitCount_95d88_42 : decode cJ13_bitCount_95d88 42 = .ok (.lload_n 0, 1) := by decide +kernel
theorem dJ13_bitCount_95d88_43 : decode cJ13_bitCount_95d88 43 = .ok (.bipush 16, 2) := by decide +kernel
theorem dJ13_bitCount_95d88_45 : decode cJ13_bitCount_95d88 45 = .ok (.lushr, 1) := by decide +kernel
theorem dJ13_bitCount_95d88_46 : decode cJ13_bitCount_95d88 46 = .ok (.ladd, 1) := by decide +kernel
theorem dJ13_bitCount_95d88_47 : decode cJ13_bitCount_95d88 47 = .ok (.lstore_n 0, 1) := by decide +kernel
theorem dJ13_bitCount_95d88_48 : decode cJ13_bitCount_95d88 48 = .ok (.lload_n 0, 1) := by decide +kernel
theorem dJ13_bitCount_95d88_49 : decode cJ13_bitCount_95d88 49 = .ok (.lload_n 0, 1) := by decide +kernel
theorem dJ13_bitCount_95d88_50 : decode cJ13_bitCount_95d88 50 = .ok (.bipush 32, 2) := by decide +kernel
theorem dJ13_bitCount_95d88_52 : decode cJ13_bitCount_95d88 52 = .ok (.lushr, 1) := by decide +kernel
theorem dJ13_bitCount_95d88_53 : decode cJ13_bitCount_95d88 53 = .ok (.ladd, 1) := by decide +kernel
theorem dJ13_bitCount_95d88_54 : decode cJ13_bitCount_95d88 54 = .ok (.lstore_n 0, 1) := by decide +kernel
theorem dJ13_bitCount_95d88_55 : decode cJ13_bitCount_95d88 55 = .ok (.lload_n 0, 1) := by decide +kernel
theorem dJ13_bitCount_95d88_56 : decode cJ13_bitCount_95d88 56 = .ok (.l2i, 1) := by decide +kernel
theorem dJ13_bitCount_95d88_57 : decode cJ13_bitCount_95d88 57 = .ok (.bipush 127, 2) := by decide +kernel
theorem dJ13_bitCount_95d88_59 : decode cJ13_bitCount_95d88 59 = .ok (.iand, 1) := by decide +kernel
theorem dJ13_bitCount_95d88_60 : decode cJ13_bitCount_95d88 60 = .ok (.ireturn, 1) := by decide +kernel
theorem dL_law_0 : decode cL_law 0 = .ok (.new 7, 3) := by decide +kernel
theorem dL_law_3 : decode cL_law 3 = .ok (.dup, 1) := by decide +kernel
theorem dL_law_4 : decode cL_law 4 = .ok (.invokespecial 9, 3) := by decide +kernel
theorem dL_law_7 : decode cL_law 7 = .ok (.astore_n 1, 1) := by decide +kernel
theorem dL_law_8 : decode cL_law 8 = .ok (.new 10, 3) := by decide +kernel
theorem dL_law_11 : decode cL_law 11 = .ok (.dup, 1) := by decide +kernel
theorem dL_law_12 : decode cL_law 12 = .ok (.invokespecial 12, 3) := by decide +kernel
theorem dL_law_15 : decode cL_law 15 = .ok (.astore_n 2, 1) := by decide +kernel
theorem dL_law_16 : decode cL_law 16 = .ok (.iconst 0, 1) := by decide +kernel
theorem dL_law_17 : decode cL_law 17 = .ok (.istore_n 3, 1) := by decide +kernel
theorem dL_law_18 : decode cL_law 18 = .ok (.iload_n 3, 1) := by decide +kernel
theorem dL_law_19 : decode cL_law 19 = .ok (.aload_n 0, 1) := by decide +kernel
theorem dL_law_20 : decode cL_law 20 = .ok (.arraylength, 1) := by decide +kernel
theorem dL_law_21 : decode cL_law 21 = .ok (.iconst 5, 1) := by decide +kernel
theorem dL_law_22 : decode cL_law 22 = .ok (.isub, 1) := by decide +kernel
theorem dL_law_23 : decode cL_law 23 = .ok (.if_icmp .gt 669, 3) := by decide +kernel
theorem dL_law_26 : decode cL_law 26 = .ok (.aload_n 0, 1) := by decide +kernel
theorem dL_law_27 : decode cL_law 27 = .ok (.iload_n 3, 1) := by decide +kernel
theorem dL_law_28 : decode cL_law 28 = .ok (.iaload, 1) := by decide +kernel
theorem dL_law_29 : decode cL_law 29 = .ok (.bipush 31, 2) := by decide +kernel
theorem dL_law_31 : decode cL_law 31 = .ok (.iand, 1) := by decide +kernel
theorem dL_law_32 : decode cL_law 32 = .ok (.tableswitch 654 0 16 #[84, 97, 120, 143, 202, 255, 288, 347, 390, 424, 437, 460, 483, 516, 549, 602, 615], 84) := by decide +kernel
theorem dL_law_116 : decode cL_law 116 = .ok (.aload_n 1, 1) := by decide +kernel
theorem dL_law_117 : decode cL_law 117 = .ok (.invokevirtual 13, 3) := by decide +kernel
theorem dL_law_120 : decode cL_law 120 = .ok (.aload_n 2, 1) := by decide +kernel
theorem dL_law_121 : decode cL_law 121 = .ok (.invokevirtual 17, 3) := by decide +kernel
theorem dL_law_124 : decode cL_law 124 = .ok (.if_icmp .eq 562, 3) := by decide +kernel
theorem dL_law_127 : decode cL_law 127 = .ok (.iconst 0, 1) := by decide +kernel
theorem dL_law_128 : decode cL_law 128 = .ok (.ireturn, 1) := by decide +kernel
theorem dL_law_129 : decode cL_law 129 = .ok (.aload_n 1, 1) := by decide +kernel
theorem dL_law_130 : decode cL_law 130 = .ok (.aload_n 0, 1) := by decide +kernel
theorem dL_law_131 : decode cL_law 131 = .ok (.iload_n 3, 1) := by decide +kernel
theorem dL_law_132 : decode cL_law 132 = .ok (.iconst 1, 1) := by decide +kernel
theorem dL_law_133 : decode cL_law 133 = .ok (.iadd, 1) := by decide +kernel
theorem dL_law_134 : decode cL_law 134 = .ok (.iaload, 1) := by decide +kernel
theorem dL_law_135 : decode cL_law 135 = .ok (.invokevirtual 18, 3) := by decide +kernel
theorem dL_law_138 : decode cL_law 138 = .ok (.aload_n 2, 1) := by decide +kernel
theorem dL_law_139 : decode cL_law 139 = .ok (.aload_n 0, 1) := by decide +kernel
theorem dL_law_140 : decode cL_law 140 = .ok (.iload_n 3, 1) := by decide +kernel
theorem dL_law_141 : decode cL_law 141 = .ok (.iconst 1, 1) := by decide +kernel
theorem dL_law_142 : decode cL_law 142 = .ok (.iadd, 1) := by decide +kernel
theorem dL_law_143 : decode cL_law 143 = .ok (.iaload, 1) := by decide +kernel
theorem dL_law_144 : decode cL_law 144 = .ok (.invokevirtual 22, 3) := by decide +kernel
theorem dL_law_147 : decode cL_law 147 = .ok (.if_icmp .eq 539, 3) := by decide +kernel
theorem dL_law_150 : decode cL_law 150 = .ok (.iconst 0, 1) := by decide +kernel
theorem dL_law_151 : decode cL_law 151 = .ok (.ireturn, 1) := by decide +kernel
theorem dL_law_152 : decode cL_law 152 = .ok (.aload_n 1, 1) := by decide +kernel
theorem dL_law_153 : decode cL_law 153 = .ok (.aload_n 0, 1) := by decide +kernel
theorem dL_law_154 : decode cL_law 154 = .ok (.iload_n 3, 1) := by decide +kernel
theorem dL_law_155 : decode cL_law 155 = .ok (.iconst 1, 1) := by decide +kernel
theorem dL_law_156 : decode cL_law 156 = .ok (.iadd, 1) := by decide +kernel
theorem dL_law_157 : decode cL_law 157 = .ok (.iaload, 1) := by decide +kernel
theorem dL_law_158 : decode cL_law 158 = .ok (.invokevirtual 23, 3) := by decide +kernel
theorem dL_law_161 : decode cL_law 161 = .ok (.aload_n 2, 1) := by decide +kernel
theorem dL_law_162 : decode cL_law 162 = .ok (.aload_n 0, 1) := by decide +kernel
theorem dL_law_163 : decode cL_law 163 = .ok (.iload_n 3, 1) := by decide +kernel
theorem dL_law_164 : decode cL_law 164 = .ok (.iconst 1, 1) := by decide +kernel
theorem dL_law_165 : decode cL_law 165 = .ok (.iadd, 1) := by decide +kernel
theorem dL_law_166 : decode cL_law 166 = .ok (.iaload, 1) := by decide +kernel
theorem dL_law_167 : decode cL_law 167 = .ok (.invokevirtual 26, 3) := by decide +kernel
theorem dL_law_170 : decode cL_law 170 = .ok (.if_icmp .eq 516, 3) := by decide +kernel
theorem dL_law_173 : decode cL_law 173 = .ok (.iconst 0, 1) := by decide +kernel
theorem dL_law_174 : decode cL_law 174 = .ok (.ireturn, 1) := by decide +kernel
theorem dL_law_175 : decode cL_law 175 = .ok (.aload_n 1, 1) := by decide +kernel
theorem dL_law_176 : decode cL_law 176 = .ok (.aload_n 0, 1) := by decide +kernel
theorem dL_law_177 : decode cL_law 177 = .ok (.iload_n 3, 1) := by decide +kernel
theorem dL_law_178 : decode cL_law 178 = .ok (.iconst 1, 1) := by decide +kernel
theorem dL_law_179 : decode cL_law 179 = .ok (.iadd, 1) := by decide +kernel
theorem dL_law_180 : decode cL_law 180 = .ok (.iaload, 1) := by decide +kernel
theorem dL_law_181 : decode cL_law 181 = .ok (.aload_n 0, 1) := by decide +kernel
theorem dL_law_182 : decode cL_law 182 = .ok (.iload_n 3, 1) := by decide +kernel
theorem dL_law_183 : decode cL_law 183 = .ok (.iconst 2, 1) := by decide +kernel
theorem dL_law_184 : decode cL_law 184 = .ok (.iadd, 1) := by decide +kernel
theorem dL_law_185 : decode cL_law 185 = .ok (.iaload, 1) := by decide +kernel
theorem dL_law_186 : decode cL_law 186 = .ok (.aload_n 0, 1) := by decide +kernel
theorem dL_law_187 : decode cL_law 187 = .ok (.iload_n 3, 1) := by decide +kernel
theorem dL_law_188 : decode cL_law 188 = .ok (.iconst 3, 1) := by decide +kernel
theorem dL_law_189 : decode cL_law 189 = .ok (.iadd, 1) := by decide +kernel
theorem dL_law_190 : decode cL_law 190 = .ok (.iaload, 1) := by decide +kernel
theorem dL_law_191 : decode cL_law 191 = .ok (.ifCond .eq 7, 3) := by decide +kernel
theorem dL_law_194 : decode cL_law 194 = .ok (.iconst 1, 1) := by decide +kernel
theorem dL_law_195 : decode cL_law 195 = .ok (.goto 4, 3) := by decide +kernel
theorem dL_law_198 : decode cL_law 198 = .ok (.iconst 0, 1) := by decide +kernel
theorem dL_law_199 : decode cL_law 199 = .ok (.invokevirtual 27, 3) := by decide +kernel
theorem dL_law_202 : decode cL_law 202 = .ok (.aload_n 2, 1) := by decide +kernel
theorem dL_law_203 : decode cL_law 203 = .ok (.aload_n 0, 1) := by decide +kernel
theorem dL_law_204 : decode cL_law 204 = .ok (.iload_n 3, 1) := by decide +kernel
theorem dL_law_205 : decode cL_law 205 = .ok (.iconst 1, 1) := by decide +kernel
theorem dL_law_206 : decode cL_law 206 = .ok (.iadd, 1) := by decide +kernel
theorem dL_law_207 : decode cL_law 207 = .ok (.iaload, 1) := by decide +kernel
theorem dL_law_208 : decode cL_law 208 = .ok (.aload_n 0, 1) := by decide +kernel
theorem dL_law_209 : decode cL_law 209 = .ok (.iload_n 3, 1) := by decide +kernel
theorem dL_law_210 : decode cL_law 210 = .ok (.iconst 2, 1) := by decide +kernel
theorem dL_law_211 : decode cL_law 211 = .ok (.iadd, 1) := by decide +kernel
theorem dL_law_212 : decode cL_law 212 = .ok (.iaload, 1) := by decide +kernel
theorem dL_law_213 : decode cL_law 213 = .ok (.aload_n 0, 1) := by decide +kernel
theorem dL_law_214 : decode cL_law 214 = .ok (.iload_n 3, 1) := by decide +kernel
theorem dL_law_215 : decode cL_law 215 = .ok (.iconst 3, 1) := by decide +kernel
theorem dL_law_216 : decode cL_law 216 = .ok (.iadd, 1) := by decide +kernel
theorem dL_law_217 : decode cL_law 217 = .ok (.iaload, 1) := by decide +kernel
theorem dL_law_218 : decode cL_law 218 = .ok (.ifCond .eq 7, 3) := by decide +kernel
theorem dL_law_221 : decode cL_law 221 = .ok (.iconst 1, 1) := by decide +kernel
theorem dL_law_222 : decode cL_law 222 = .ok (.goto 4, 3) := by decide +kernel
theorem dL_law_225 : decode cL_law 225 = .ok (.iconst 0, 1) := by decide +kernel
theorem dL_law_226 : decode cL_law 226 = .ok (.invokevirtual 31, 3) := by decide +kernel
theorem dL_law_229 : decode cL_law 229 = .ok (.if_icmp .eq 457, 3) := by decide +kernel
theorem dL_law_232 : decode cL_law 232 = .ok (.iconst 0, 1) := by decide +kernel
theorem dL_law_233 : decode cL_law 233 = .ok (.ireturn, 1) := by decide +kernel
theorem dL_law_234 : decode cL_law 234 = .ok (.aload_n 1, 1) := by decide +kernel
theorem dL_law_235 : decode cL_law 235 = .ok (.aload_n 0, 1) := by decide +kernel
theorem dL_law_236 : decode cL_law 236 = .ok (.iload_n 3, 1) := by decide +kernel
theorem dL_law_237 : decode cL_law 237 = .ok (.iconst 1, 1) := by decide +kernel
theorem dL_law_238 : decode cL_law 238 = .ok (.iadd, 1) := by decide +kernel
theorem dL_law_239 : decode cL_law 239 = .ok (.iaload, 1) := by decide +kernel
theorem dL_law_240 : decode cL_law 240 = .ok (.aload_n 0, 1) := by decide +kernel
theorem dL_law_241 : decode cL_law 241 = .ok (.iload_n 3, 1) := by decide +kernel
theorem dL_law_242 : decode cL_law 242 = .ok (.iconst 2, 1) := by decide +kernel
theorem dL_law_243 : decode cL_law 243 = .ok (.iadd, 1) := by decide +kernel
theorem dL_law_244 : decode cL_law 244 = .ok (.iaload, 1) := by decide +kernel
theorem dL_law_245 : decode cL_law 245 = .ok (.aload_n 0, 1) := by decide +kernel
theorem dL_law_246 : decode cL_law 246 = .ok (.iload_n 3, 1) := by decide +kernel
theorem dL_law_247 : decode cL_law 247 = .ok (.iconst 3, 1) := by decide +kernel
theorem dL_law_248 : decode cL_law 248 = .ok (.iadd, 1) := by decide +kernel
theorem dL_law_249 : decode cL_law 249 = .ok (.iaload, 1) := by decide +kernel
theorem dL_law_250 : decode cL_law 250 = .ok (.aload_n 0, 1) := by decide +kernel
theorem dL_law_251 : decode cL_law 251 = .ok (.iload_n 3, 1) := by decide +kernel
theorem dL_law_252 : decode cL_law 252 = .ok (.iconst 4, 1) := by decide +kernel
theorem dL_law_253 : decode cL_law 253 = .ok (.iadd, 1) := by decide +kernel
theorem dL_law_254 : decode cL_law 254 = .ok (.iaload, 1) := by decide +kernel
theorem dL_law_255 : decode cL_law 255 = .ok (.invokevirtual 32, 3) := by decide +kernel
theorem dL_law_258 : decode cL_law 258 = .ok (.aload_n 2, 1) := by decide +kernel
theorem dL_law_259 : decode cL_law 259 = .ok (.aload_n 0, 1) := by decide +kernel
theorem dL_law_260 : decode cL_law 260 = .ok (.iload_n 3, 1) := by decide +kernel
theorem dL_law_261 : decode cL_law 261 = .ok (.iconst 1, 1) := by decide +kernel
theorem dL_law_262 : decode cL_law 262 = .ok (.iadd, 1) := by decide +kernel
theorem dL_law_263 : decode cL_law 263 = .ok (.iaload, 1) := by decide +kernel
theorem dL_law_264 : decode cL_law 264 = .ok (.aload_n 0, 1) := by decide +kernel
theorem dL_law_265 : decode cL_law 265 = .ok (.iload_n 3, 1) := by decide +kernel
theorem dL_law_266 : decode cL_law 266 = .ok (.iconst 2, 1) := by decide +kernel
theorem dL_law_267 : decode cL_law 267 = .ok (.iadd, 1) := by decide +kernel
theorem dL_law_268 : decode cL_law 268 = .ok (.iaload, 1) := by decide +kernel
theorem dL_law_269 : decode cL_law 269 = .ok (.aload_n 0, 1) := by decide +kernel
theorem dL_law_270 : decode cL_law 270 = .ok (.iload_n 3, 1) := by decide +kernel
theorem dL_law_271 : decode cL_law 271 = .ok (.iconst 3, 1) := by decide +kernel
theorem dL_law_272 : decode cL_law 272 = .ok (.iadd, 1) := by decide +kernel
theorem dL_law_273 : decode cL_law 273 = .ok (.iaload, 1) := by decide +kernel
theorem dL_law_274 : decode cL_law 274 = .ok (.aload_n 0, 1) := by decide +kernel
theorem dL_law_275 : decode cL_law 275 = .ok (.iload_n 3, 1) := by decide +kernel
theorem dL_law_276 : decode cL_law 276 = .ok (.iconst 4, 1) := by decide +kernel
theorem dL_law_277 : decode cL_law 277 = .ok (.iadd, 1) := by decide +kernel
theorem dL_law_278 : decode cL_law 278 = .ok (.iaload, 1) := by decide +kernel
theorem dL_law_279 : decode cL_law 279 = .ok (.invokevirtual 36, 3) := by decide +kernel
theorem dL_law_282 : decode cL_law 282 = .ok (.if_icmp .eq 404, 3) := by decide +kernel
theorem dL_law_285 : decode cL_law 285 = .ok (.iconst 0, 1) := by decide +kernel
theorem dL_law_286 : decode cL_law 286 = .ok (.ireturn, 1) := by decide +kernel
theorem dL_law_287 : decode cL_law 287 = .ok (.aload_n 1, 1) := by decide +kernel
theorem dL_law_288 : decode cL_law 288 = .ok (.aload_n 0, 1) := by decide +kernel
theorem dL_law_289 : decode cL_law 289 = .ok (.iload_n 3, 1) := by decide +kernel
theorem dL_law_290 : decode cL_law 290 = .ok (.iconst 1, 1) := by decide +kernel
theorem dL_law_291 : decode cL_law 291 = .ok (.iadd, 1) := by decide +kernel
theorem dL_law_292 : decode cL_law 292 = .ok (.iaload, 1) := by decide +kernel
theorem dL_law_293 : decode cL_law 293 = .ok (.aload_n 0, 1) := by decide +kernel
theorem dL_law_294 : decode cL_law 294 = .ok (.iload_n 3, 1) := by decide +kernel
theorem dL_law_295 : decode cL_law 295 = .ok (.iconst 2, 1) := by decide +kernel
theorem dL_law_296 : decode cL_law 296 = .ok (.iadd, 1) := by decide +kernel
theorem dL_law_297 : decode cL_law 297 = .ok (.iaload, 1) := by decide +kernel
theorem dL_law_298 : decode cL_law 298 = .ok (.invokevirtual 37, 3) := by decide +kernel
theorem dL_law_301 : decode cL_law 301 = .ok (.aload_n 2, 1) := by decide +kernel
theorem dL_law_302 : decode cL_law 302 = .ok (.aload_n 0, 1) := by decide +kernel
theorem dL_law_303 : decode cL_law 303 = .ok (.iload_n 3, 1) := by decide +kernel
theorem dL_law_304 : decode cL_law 304 = .ok (.iconst 1, 1) := by decide +kernel
theorem dL_law_305 : decode cL_law 305 = .ok (.iadd, 1) := by decide +kernel
theorem dL_law_306 : decode cL_law 306 = .ok (.iaload, 1) := by decide +kernel
theorem dL_law_307 : decode cL_law 307 = .ok (.aload_n 0, 1) := by decide +kernel
theorem dL_law_308 : decode cL_law 308 = .ok (.iload_n 3, 1) := by decide +kernel
theorem dL_law_309 : decode cL_law 309 = .ok (.iconst 2, 1) := by decide +kernel
theorem dL_law_310 : decode cL_law 310 = .ok (.iadd, 1) := by decide +kernel
theorem dL_law_311 : decode cL_law 311 = .ok (.iaload, 1) := by decide +kernel
theorem dL_law_312 : decode cL_law 312 = .ok (.invokevirtual 41, 3) := by decide +kernel
theorem dL_law_315 : decode cL_law 315 = .ok (.if_icmp .eq 371, 3) := by decide +kernel
theorem dL_law_318 : decode cL_law 318 = .ok (.iconst 0, 1) := by decide +kernel
theorem dL_law_319 : decode cL_law 319 = .ok (.ireturn, 1) := by decide +kernel
theorem dL_law_320 : decode cL_law 320 = .ok (.aload_n 1, 1) := by decide +kernel
theorem dL_law_321 : decode cL_law 321 = .ok (.aload_n 0, 1) := by decide +kernel
theorem dL_law_322 : decode cL_law 322 = .ok (.iload_n 3, 1) := by decide +kernel
theorem dL_law_323 : decode cL_law 323 = .ok (.iconst 1, 1) := by decide +kernel
theorem dL_law_324 : decode cL_law 324 = .ok (.iadd, 1) := by decide +kernel
theorem dL_law_325 : decode cL_law 325 = .ok (.iaload, 1) := by decide +kernel
theorem dL_law_326 : decode cL_law 326 = .ok (.aload_n 0, 1) := by decide +kernel
theorem dL_law_327 : decode cL_law 327 = .ok (.iload_n 3, 1) := by decide +kernel
theorem dL_law_328 : decode cL_law 328 = .ok (.iconst 2, 1) := by decide +kernel
theorem dL_law_329 : decode cL_law 329 = .ok (.iadd, 1) := by decide +kernel
theorem dL_law_330 : decode cL_law 330 = .ok (.iaload, 1) := by decide +kernel
theorem dL_law_331 : decode cL_law 331 = .ok (.aload_n 0, 1) := by decide +kernel
theorem dL_law_332 : decode cL_law 332 = .ok (.iload_n 3, 1) := by decide +kernel
theorem dL_law_333 : decode cL_law 333 = .ok (.iconst 3, 1) := by decide +kernel
theorem dL_law_334 : decode cL_law 334 = .ok (.iadd, 1) := by decide +kernel
theorem dL_law_335 : decode cL_law 335 = .ok (.iaload, 1) := by decide +kernel
theorem dL_law_336 : decode cL_law 336 = .ok (.ifCond .eq 7, 3) := by decide +kernel
theorem dL_law_339 : decode cL_law 339 = .ok (.iconst 1, 1) := by decide +kernel
theorem dL_law_340 : decode cL_law 340 = .ok (.goto 4, 3) := by decide +kernel
theorem dL_law_343 : decode cL_law 343 = .ok (.iconst 0, 1) := by decide +kernel
theorem dL_law_344 : decode cL_law 344 = .ok (.invokevirtual 42, 3) := by decide +kernel
theorem dL_law_347 : decode cL_law 347 = .ok (.aload_n 2, 1) := by decide +kernel
theorem dL_law_348 : decode cL_law 348 = .ok (.aload_n 0, 1) := by decide +kernel
theorem dL_law_349 : decode cL_law 349 = .ok (.iload_n 3, 1) := by decide +kernel
theorem dL_law_350 : decode cL_law 350 = .ok (.iconst 1, 1) := by decide +kernel
theorem dL_law_351 : decode cL_law 351 = .ok (.iadd, 1) := by decide +kernel
theorem dL_law_352 : decode cL_law 352 = .ok (.iaload, 1) := by decide +kernel
theorem dL_law_353 : decode cL_law 353 = .ok (.aload_n 0, 1) := by decide +kernel
theorem dL_law_354 : decode cL_law 354 = .ok (.iload_n 3, 1) := by decide +kernel
theorem dL_law_355 : decode cL_law 355 = .ok (.iconst 2, 1) := by decide +kernel
theorem dL_law_356 : decode cL_law 356 = .ok (.iadd, 1) := by decide +kernel
theorem dL_law_357 : decode cL_law 357 = .ok (.iaload, 1) := by decide +kernel
theorem dL_law_358 : decode cL_law 358 = .ok (.aload_n 0, 1) := by decide +kernel
theorem dL_law_359 : decode cL_law 359 = .ok (.iload_n 3, 1) := by decide +kernel
theorem dL_law_360 : decode cL_law 360 = .ok (.iconst 3, 1) := by decide +kernel
theorem dL_law_361 : decode cL_law 361 = .ok (.iadd, 1) := by decide +kernel
theorem dL_law_362 : decode cL_law 362 = .ok (.iaload, 1) := by decide +kernel
theorem dL_law_363 : decode cL_law 363 = .ok (.ifCond .eq 7, 3) := by decide +kernel
theorem dL_law_366 : decode cL_law 366 = .ok (.iconst 1, 1) := by decide +kernel
theorem dL_law_367 : decode cL_law 367 = .ok (.goto 4, 3) := by decide +kernel
theorem dL_law_370 : decode cL_law 370 = .ok (.iconst 0, 1) := by decide +kernel
theorem dL_law_371 : decode cL_law 371 = .ok (.invokevirtual 45, 3) := by decide +kernel
theorem dL_law_374 : decode cL_law 374 = .ok (.if_icmp .eq 312, 3) := by decide +kernel
theorem dL_law_377 : decode cL_law 377 = .ok (.iconst 0, 1) := by decide +kernel
theorem dL_law_378 : decode cL_law 378 = .ok (.ireturn, 1) := by decide +kernel
theorem dL_law_379 : decode cL_law 379 = .ok (.aload_n 1, 1) := by decide +kernel
theorem dL_law_380 : decode cL_law 380 = .ok (.aload_n 0, 1) := by decide +kernel
theorem dL_law_381 : decode cL_law 381 = .ok (.iload_n 3, 1) := by decide +kernel
theorem dL_law_382 : decode cL_law 382 = .ok (.iconst 1, 1) := by decide +kernel
theorem dL_law_383 : decode cL_law 383 = .ok (.iadd, 1) := by decide +kernel
theorem dL_law_384 : decode cL_law 384 = .ok (.iaload, 1) := by decide +kernel
theorem dL_law_385 : decode cL_law 385 = .ok (.aload_n 0, 1) := by decide +kernel
theorem dL_law_386 : decode cL_law 386 = .ok (.iload_n 3, 1) := by decide +kernel
theorem dL_law_387 : decode cL_law 387 = .ok (.iconst 2, 1) := by decide +kernel
theorem dL_law_388 : decode cL_law 388 = .ok (.iadd, 1) := by decide +kernel
theorem dL_law_389 : decode cL_law 389 = .ok (.iaload, 1) := by decide +kernel
theorem dL_law_390 : decode cL_law 390 = .ok (.aload_n 0, 1) := by decide +kernel
theorem dL_law_391 : decode cL_law 391 = .ok (.iload_n 3, 1) := by decide +kernel
theorem dL_law_392 : decode cL_law 392 = .ok (.iconst 3, 1) := by decide +kernel
theorem dL_law_393 : decode cL_law 393 = .ok (.iadd, 1) := by decide +kernel
theorem dL_law_394 : decode cL_law 394 = .ok (.iaload, 1) := by decide +kernel
theorem dL_law_395 : decode cL_law 395 = .ok (.invokevirtual 46, 3) := by decide +kernel
theorem dL_law_398 : decode cL_law 398 = .ok (.aload_n 2, 1) := by decide +kernel
theorem dL_law_399 : decode cL_law 399 = .ok (.aload_n 0, 1) := by decide +kernel
theorem dL_law_400 : decode cL_law 400 = .ok (.iload_n 3, 1) := by decide +kernel
theorem dL_law_401 : decode cL_law 401 = .ok (.iconst 1, 1) := by decide +kernel
theorem dL_law_402 : decode cL_law 402 = .ok (.iadd, 1) := by decide +kernel
theorem dL_law_403 : decode cL_law 403 = .ok (.iaload, 1) := by decide +kernel
theorem dL_law_404 : decode cL_law 404 = .ok (.aload_n 0, 1) := by decide +kernel
theorem dL_law_405 : decode cL_law 405 = .ok (.iload_n 3, 1) := by decide +kernel
theorem dL_law_406 : decode cL_law 406 = .ok (.iconst 2, 1) := by decide +kernel
theorem dL_law_407 : decode cL_law 407 = .ok (.iadd, 1) := by decide +kernel
theorem dL_law_408 : decode cL_law 408 = .ok (.iaload, 1) := by decide +kernel
theorem dL_law_409 : decode cL_law 409 = .ok (.aload_n 0, 1) := by decide +kernel
theorem dL_law_410 : decode cL_law 410 = .ok (.iload_n 3, 1) := by decide +kernel
theorem dL_law_411 : decode cL_law 411 = .ok (.iconst 3, 1) := by decide +kernel
theorem dL_law_412 : decode cL_law 412 = .ok (.iadd, 1) := by decide +kernel
theorem dL_law_413 : decode cL_law 413 = .ok (.iaload, 1) := by decide +kernel
theorem dL_law_414 : decode cL_law 414 = .ok (.invokevirtual 50, 3) := by decide +kernel
theorem dL_law_417 : decode cL_law 417 = .ok (.if_icmp .eq 269, 3) := by decide +kernel
theorem dL_law_420 : decode cL_law 420 = .ok (.iconst 0, 1) := by decide +kernel
theorem dL_law_421 : decode cL_law 421 = .ok (.ireturn, 1) := by decide +kernel
theorem dL_law_422 : decode cL_law 422 = .ok (.aload_n 1, 1) := by decide +kernel
theorem dL_law_423 : decode cL_law 423 = .ok (.aload_n 0, 1) := by decide +kernel
theorem dL_law_424 : decode cL_law 424 = .ok (.iload_n 3, 1) := by decide +kernel
theorem dL_law_425 : decode cL_law 425 = .ok (.iconst 1, 1) := by decide +kernel
theorem dL_law_426 : decode cL_law 426 = .ok (.iadd, 1) := by decide +kernel
theorem dL_law_427 : decode cL_law 427 = .ok (.iaload, 1) := by decide +kernel
theorem dL_law_428 : decode cL_law 428 = .ok (.aload_n 0, 1) := by decide +kernel
theorem dL_law_429 : decode cL_law 429 = .ok (.iload_n 3, 1) := by decide +kernel
theorem dL_law_430 : decode cL_law 430 = .ok (.iconst 2, 1) := by decide +kernel
theorem dL_law_431 : decode cL_law 431 = .ok (.iadd, 1) := by decide +kernel
theorem dL_law_432 : decode cL_law 432 = .ok (.iaload, 1) := by decide +kernel
theorem dL_law_433 : decode cL_law 433 = .ok (.invokevirtual 51, 3) := by decide +kernel
theorem dL_law_436 : decode cL_law 436 = .ok (.aload_n 2, 1) := by decide +kernel
theorem dL_law_437 : decode cL_law 437 = .ok (.aload_n 0, 1) := by decide +kernel
theorem dL_law_438 : decode cL_law 438 = .ok (.iload_n 3, 1) := by decide +kernel
theorem dL_law_439 : decode cL_law 439 = .ok (.iconst 1, 1) := by decide +kernel
theorem dL_law_440 : decode cL_law 440 = .ok (.iadd, 1) := by decide +kernel
theorem dL_law_441 : decode cL_law 441 = .ok (.iaload, 1) := by decide +kernel
theorem dL_law_442 : decode cL_law 442 = .ok (.aload_n 0, 1) := by decide +kernel
theorem dL_law_443 : decode cL_law 443 = .ok (.iload_n 3, 1) := by decide +kernel
theorem dL_law_444 : decode cL_law 444 = .ok (.iconst 2, 1) := by decide +kernel
theorem dL_law_445 : decode cL_law 445 = .ok (.iadd, 1) := by decide +kernel
theorem dL_law_446 : decode cL_law 446 = .ok (.iaload, 1) := by decide +kernel
theorem dL_law_447 : decode cL_law 447 = .ok (.invokevirtual 55, 3) := by decide +kernel
theorem dL_law_450 : decode cL_law 450 = .ok (.lcmp, 1) := by decide +kernel
theorem dL_law_451 : decode cL_law 451 = .ok (.ifCond .eq 235, 3) := by decide +kernel
theorem dL_law_454 : decode cL_law 454 = .ok (.iconst 0, 1) := by decide +kernel
theorem dL_law_455 : decode cL_law 455 = .ok (.ireturn, 1) := by decide +kernel
theorem dL_law_456 : decode cL_law 456 = .ok (.aload_n 1, 1) := by decide +kernel
theorem dL_law_457 : decode cL_law 457 = .ok (.invokevirtual 56, 3) := by decide +kernel
theorem dL_law_460 : decode cL_law 460 = .ok (.aload_n 2, 1) := by decide +kernel
theorem dL_law_461 : decode cL_law 461 = .ok (.invokevirtual 59, 3) := by decide +kernel
theorem dL_law_464 : decode cL_law 464 = .ok (.if_icmp .eq 222, 3) := by decide +kernel
theorem dL_law_467 : decode cL_law 467 = .ok (.iconst 0, 1) := by decide +kernel
theorem dL_law_468 : decode cL_law 468 = .ok (.ireturn, 1) := by decide +kernel
theorem dL_law_469 : decode cL_law 469 = .ok (.aload_n 1, 1) := by decide +kernel
theorem dL_law_470 : decode cL_law 470 = .ok (.aload_n 0, 1) := by decide +kernel
theorem dL_law_471 : decode cL_law 471 = .ok (.iload_n 3, 1) := by decide +kernel
theorem dL_law_472 : decode cL_law 472 = .ok (.iconst 1, 1) := by decide +kernel
theorem dL_law_473 : decode cL_law 473 = .ok (.iadd, 1) := by decide +kernel
theorem dL_law_474 : decode cL_law 474 = .ok (.iaload, 1) := by decide +kernel
theorem dL_law_475 : decode cL_law 475 = .ok (.invokevirtual 60, 3) := by decide +kernel
theorem dL_law_478 : decode cL_law 478 = .ok (.aload_n 2, 1) := by decide +kernel
theorem dL_law_479 : decode cL_law 479 = .ok (.aload_n 0, 1) := by decide +kernel
theorem dL_law_480 : decode cL_law 480 = .ok (.iload_n 3, 1) := by decide +kernel
theorem dL_law_481 : decode cL_law 481 = .ok (.iconst 1, 1) := by decide +kernel
theorem dL_law_482 : decode cL_law 482 = .ok (.iadd, 1) := by decide +kernel
theorem dL_law_483 : decode cL_law 483 = .ok (.iaload, 1) := by decide +kernel
theorem dL_law_484 : decode cL_law 484 = .ok (.invokevirtual 63, 3) := by decide +kernel
theorem dL_law_487 : decode cL_law 487 = .ok (.if_icmp .eq 199, 3) := by decide +kernel
theorem dL_law_490 : decode cL_law 490 = .ok (.iconst 0, 1) := by decide +kernel
theorem dL_law_491 : decode cL_law 491 = .ok (.ireturn, 1) := by decide +kernel
theorem dL_law_492 : decode cL_law 492 = .ok (.aload_n 1, 1) := by decide +kernel
theorem dL_law_493 : decode cL_law 493 = .ok (.aload_n 0, 1) := by decide +kernel
theorem dL_law_494 : decode cL_law 494 = .ok (.iload_n 3, 1) := by decide +kernel
theorem dL_law_495 : decode cL_law 495 = .ok (.iconst 1, 1) := by decide +kernel
theorem dL_law_496 : decode cL_law 496 = .ok (.iadd, 1) := by decide +kernel
theorem dL_law_497 : decode cL_law 497 = .ok (.iaload, 1) := by decide +kernel
theorem dL_law_498 : decode cL_law 498 = .ok (.invokevirtual 64, 3) := by decide +kernel
theorem dL_law_501 : decode cL_law 501 = .ok (.aload_n 2, 1) := by decide +kernel
theorem dL_law_502 : decode cL_law 502 = .ok (.aload_n 0, 1) := by decide +kernel
theorem dL_law_503 : decode cL_law 503 = .ok (.iload_n 3, 1) := by decide +kernel
theorem dL_law_504 : decode cL_law 504 = .ok (.iconst 1, 1) := by decide +kernel
theorem dL_law_505 : decode cL_law 505 = .ok (.iadd, 1) := by decide +kernel
theorem dL_law_506 : decode cL_law 506 = .ok (.iaload, 1) := by decide +kernel
theorem dL_law_507 : decode cL_law 507 = .ok (.invokevirtual 67, 3) := by decide +kernel
theorem dL_law_510 : decode cL_law 510 = .ok (.if_icmp .eq 176, 3) := by decide +kernel
theorem dL_law_513 : decode cL_law 513 = .ok (.iconst 0, 1) := by decide +kernel
theorem dL_law_514 : decode cL_law 514 = .ok (.ireturn, 1) := by decide +kernel
theorem dL_law_515 : decode cL_law 515 = .ok (.aload_n 1, 1) := by decide +kernel
theorem dL_law_516 : decode cL_law 516 = .ok (.aload_n 0, 1) := by decide +kernel
theorem dL_law_517 : decode cL_law 517 = .ok (.iload_n 3, 1) := by decide +kernel
theorem dL_law_518 : decode cL_law 518 = .ok (.iconst 1, 1) := by decide +kernel
theorem dL_law_519 : decode cL_law 519 = .ok (.iadd, 1) := by decide +kernel
theorem dL_law_520 : decode cL_law 520 = .ok (.iaload, 1) := by decide +kernel
theorem dL_law_521 : decode cL_law 521 = .ok (.aload_n 0, 1) := by decide +kernel
theorem dL_law_522 : decode cL_law 522 = .ok (.iload_n 3, 1) := by decide +kernel
theorem dL_law_523 : decode cL_law 523 = .ok (.iconst 2, 1) := by decide +kernel
theorem dL_law_524 : decode cL_law 524 = .ok (.iadd, 1) := by decide +kernel
theorem dL_law_525 : decode cL_law 525 = .ok (.iaload, 1) := by decide +kernel
theorem dL_law_526 : decode cL_law 526 = .ok (.invokevirtual 68, 3) := by decide +kernel
theorem dL_law_529 : decode cL_law 529 = .ok (.aload_n 2, 1) := by decide +kernel
theorem dL_law_530 : decode cL_law 530 = .ok (.aload_n 0, 1) := by decide +kernel
theorem dL_law_531 : decode cL_law 531 = .ok (.iload_n 3, 1) := by decide +kernel
theorem dL_law_532 : decode cL_law 532 = .ok (.iconst 1, 1) := by decide +kernel
theorem dL_law_533 : decode cL_law 533 = .ok (.iadd, 1) := by decide +kernel
theorem dL_law_534 : decode cL_law 534 = .ok (.iaload, 1) := by decide +kernel
theorem dL_law_535 : decode cL_law 535 = .ok (.aload_n 0, 1) := by decide +kernel
theorem dL_law_536 : decode cL_law 536 = .ok (.iload_n 3, 1) := by decide +kernel
theorem dL_law_537 : decode cL_law 537 = .ok (.iconst 2, 1) := by decide +kernel
theorem dL_law_538 : decode cL_law 538 = .ok (.iadd, 1) := by decide +kernel
theorem dL_law_539 : decode cL_law 539 = .ok (.iaload, 1) := by decide +kernel
theorem dL_law_540 : decode cL_law 540 = .ok (.invokevirtual 71, 3) := by decide +kernel
theorem dL_law_543 : decode cL_law 543 = .ok (.if_icmp .eq 143, 3) := by decide +kernel
theorem dL_law_546 : decode cL_law 546 = .ok (.iconst 0, 1) := by decide +kernel
theorem dL_law_547 : decode cL_law 547 = .ok (.ireturn, 1) := by decide +kernel
theorem dL_law_548 : decode cL_law 548 = .ok (.aload_n 1, 1) := by decide +kernel
theorem dL_law_549 : decode cL_law 549 = .ok (.aload_n 0, 1) := by decide +kernel
theorem dL_law_550 : decode cL_law 550 = .ok (.iload_n 3, 1) := by decide +kernel
theorem dL_law_551 : decode cL_law 551 = .ok (.iconst 1, 1) := by decide +kernel
theorem dL_law_552 : decode cL_law 552 = .ok (.iadd, 1) := by decide +kernel
theorem dL_law_553 : decode cL_law 553 = .ok (.iaload, 1) := by decide +kernel
theorem dL_law_554 : decode cL_law 554 = .ok (.aload_n 0, 1) := by decide +kernel
theorem dL_law_555 : decode cL_law 555 = .ok (.iload_n 3, 1) := by decide +kernel
theorem dL_law_556 : decode cL_law 556 = .ok (.iconst 2, 1) := by decide +kernel
theorem dL_law_557 : decode cL_law 557 = .ok (.iadd, 1) := by decide +kernel
theorem dL_law_558 : decode cL_law 558 = .ok (.iaload, 1) := by decide +kernel
theorem dL_law_559 : decode cL_law 559 = .ok (.invokevirtual 72, 3) := by decide +kernel
theorem dL_law_562 : decode cL_law 562 = .ok (.aload_n 2, 1) := by decide +kernel
theorem dL_law_563 : decode cL_law 563 = .ok (.aload_n 0, 1) := by decide +kernel
theorem dL_law_564 : decode cL_law 564 = .ok (.iload_n 3, 1) := by decide +kernel
theorem dL_law_565 : decode cL_law 565 = .ok (.iconst 1, 1) := by decide +kernel
theorem dL_law_566 : decode cL_law 566 = .ok (.iadd, 1) := by decide +kernel
theorem dL_law_567 : decode cL_law 567 = .ok (.iaload, 1) := by decide +kernel
theorem dL_law_568 : decode cL_law 568 = .ok (.aload_n 0, 1) := by decide +kernel
theorem dL_law_569 : decode cL_law 569 = .ok (.iload_n 3, 1) := by decide +kernel
theorem dL_law_570 : decode cL_law 570 = .ok (.iconst 2, 1) := by decide +kernel
theorem dL_law_571 : decode cL_law 571 = .ok (.iadd, 1) := by decide +kernel
theorem dL_law_572 : decode cL_law 572 = .ok (.iaload, 1) := by decide +kernel
theorem dL_law_573 : decode cL_law 573 = .ok (.invokevirtual 75, 3) := by decide +kernel
theorem dL_law_576 : decode cL_law 576 = .ok (.if_icmp .eq 110, 3) := by decide +kernel
theorem dL_law_579 : decode cL_law 579 = .ok (.iconst 0, 1) := by decide +kernel
theorem dL_law_580 : decode cL_law 580 = .ok (.ireturn, 1) := by decide +kernel
theorem dL_law_581 : decode cL_law 581 = .ok (.aload_n 1, 1) := by decide +kernel
theorem dL_law_582 : decode cL_law 582 = .ok (.aload_n 0, 1) := by decide +kernel
theorem dL_law_583 : decode cL_law 583 = .ok (.iload_n 3, 1) := by decide +kernel
theorem dL_law_584 : decode cL_law 584 = .ok (.iconst 1, 1) := by decide +kernel
theorem dL_law_585 : decode cL_law 585 = .ok (.iadd, 1) := by decide +kernel
theorem dL_law_586 : decode cL_law 586 = .ok (.iaload, 1) := by decide +kernel
theorem dL_law_587 : decode cL_law 587 = .ok (.aload_n 0, 1) := by decide +kernel
theorem dL_law_588 : decode cL_law 588 = .ok (.iload_n 3, 1) := by decide +kernel
theorem dL_law_589 : decode cL_law 589 = .ok (.iconst 2, 1) := by decide +kernel
theorem dL_law_590 : decode cL_law 590 = .ok (.iadd, 1) := by decide +kernel
theorem dL_law_591 : decode cL_law 591 = .ok (.iaload, 1) := by decide +kernel
theorem dL_law_592 : decode cL_law 592 = .ok (.aload_n 0, 1) := by decide +kernel
theorem dL_law_593 : decode cL_law 593 = .ok (.iload_n 3, 1) := by decide +kernel
theorem dL_law_594 : decode cL_law 594 = .ok (.iconst 3, 1) := by decide +kernel
theorem dL_law_595 : decode cL_law 595 = .ok (.iadd, 1) := by decide +kernel
theorem dL_law_596 : decode cL_law 596 = .ok (.iaload, 1) := by decide +kernel
theorem dL_law_597 : decode cL_law 597 = .ok (.aload_n 0, 1) := by decide +kernel
theorem dL_law_598 : decode cL_law 598 = .ok (.iload_n 3, 1) := by decide +kernel
theorem dL_law_599 : decode cL_law 599 = .ok (.iconst 4, 1) := by decide +kernel
theorem dL_law_600 : decode cL_law 600 = .ok (.iadd, 1) := by decide +kernel
theorem dL_law_601 : decode cL_law 601 = .ok (.iaload, 1) := by decide +kernel
theorem dL_law_602 : decode cL_law 602 = .ok (.invokevirtual 76, 3) := by decide +kernel
theorem dL_law_605 : decode cL_law 605 = .ok (.aload_n 2, 1) := by decide +kernel
theorem dL_law_606 : decode cL_law 606 = .ok (.aload_n 0, 1) := by decide +kernel
theorem dL_law_607 : decode cL_law 607 = .ok (.iload_n 3, 1) := by decide +kernel
theorem dL_law_608 : decode cL_law 608 = .ok (.iconst 1, 1) := by decide +kernel
theorem dL_law_609 : decode cL_law 609 = .ok (.iadd, 1) := by decide +kernel
theorem dL_law_610 : decode cL_law 610 = .ok (.iaload, 1) := by decide +kernel
theorem dL_law_611 : decode cL_law 611 = .ok (.aload_n 0, 1) := by decide +kernel
theorem dL_law_612 : decode cL_law 612 = .ok (.iload_n 3, 1) := by decide +kernel
theorem dL_law_613 : decode cL_law 613 = .ok (.iconst 2, 1) := by decide +kernel
theorem dL_law_614 : decode cL_law 614 = .ok (.iadd, 1) := by decide +kernel
theorem dL_law_615 : decode cL_law 615 = .ok (.iaload, 1) := by decide +kernel
theorem dL_law_616 : decode cL_law 616 = .ok (.aload_n 0, 1) := by decide +kernel
theorem dL_law_617 : decode cL_law 617 = .ok (.iload_n 3, 1) := by decide +kernel
theorem dL_law_618 : decode cL_law 618 = .ok (.iconst 3, 1) := by decide +kernel
theorem dL_law_619 : decode cL_law 619 = .ok (.iadd, 1) := by decide +kernel
theorem dL_law_620 : decode cL_law 620 = .ok (.iaload, 1) := by decide +kernel
theorem dL_law_621 : decode cL_law 621 = .ok (.aload_n 0, 1) := by decide +kernel
theorem dL_law_622 : decode cL_law 622 = .ok (.iload_n 3, 1) := by decide +kernel
theorem dL_law_623 : decode cL_law 623 = .ok (.iconst 4, 1) := by decide +kernel
theorem dL_law_624 : decode cL_law 624 = .ok (.iadd, 1) := by decide +kernel
theorem dL_law_625 : decode cL_law 625 = .ok (.iaload, 1) := by decide +kernel
theorem dL_law_626 : decode cL_law 626 = .ok (.invokevirtual 79, 3) := by decide +kernel
theorem dL_law_629 : decode cL_law 629 = .ok (.if_icmp .eq 57, 3) := by decide +kernel
theorem dL_law_632 : decode cL_law 632 = .ok (.iconst 0, 1) := by decide +kernel
theorem dL_law_633 : decode cL_law 633 = .ok (.ireturn, 1) := by decide +kernel
theorem dL_law_634 : decode cL_law 634 = .ok (.aload_n 1, 1) := by decide +kernel
theorem dL_law_635 : decode cL_law 635 = .ok (.invokevirtual 80, 3) := by decide +kernel
theorem dL_law_638 : decode cL_law 638 = .ok (.aload_n 2, 1) := by decide +kernel
theorem dL_law_639 : decode cL_law 639 = .ok (.invokevirtual 83, 3) := by decide +kernel
theorem dL_law_642 : decode cL_law 642 = .ok (.if_icmp .eq 44, 3) := by decide +kernel
theorem dL_law_645 : decode cL_law 645 = .ok (.iconst 0, 1) := by decide +kernel
theorem dL_law_646 : decode cL_law 646 = .ok (.ireturn, 1) := by decide +kernel
theorem dL_law_647 : decode cL_law 647 = .ok (.aload_n 1, 1) := by decide +kernel
theorem dL_law_648 : decode cL_law 648 = .ok (.aload_n 0, 1) := by decide +kernel
theorem dL_law_649 : decode cL_law 649 = .ok (.iload_n 3, 1) := by decide +kernel
theorem dL_law_650 : decode cL_law 650 = .ok (.iconst 1, 1) := by decide +kernel
theorem dL_law_651 : decode cL_law 651 = .ok (.iadd, 1) := by decide +kernel
theorem dL_law_652 : decode cL_law 652 = .ok (.iaload, 1) := by decide +kernel
theorem dL_law_653 : decode cL_law 653 = .ok (.ifCond .eq 7, 3) := by decide +kernel
theorem dL_law_656 : decode cL_law 656 = .ok (.iconst 1, 1) := by decide +kernel
theorem dL_law_657 : decode cL_law 657 = .ok (.goto 4, 3) := by decide +kernel
theorem dL_law_660 : decode cL_law 660 = .ok (.iconst 0, 1) := by decide +kernel
theorem dL_law_661 : decode cL_law 661 = .ok (.invokevirtual 84, 3) := by decide +kernel
theorem dL_law_664 : decode cL_law 664 = .ok (.aload_n 2, 1) := by decide +kernel
theorem dL_law_665 : decode cL_law 665 = .ok (.aload_n 0, 1) := by decide +kernel
theorem dL_law_666 : decode cL_law 666 = .ok (.iload_n 3, 1) := by decide +kernel
theorem dL_law_667 : decode cL_law 667 = .ok (.iconst 1, 1) := by decide +kernel
theorem dL_law_668 : decode cL_law 668 = .ok (.iadd, 1) := by decide +kernel
theorem dL_law_669 : decode cL_law 669 = .ok (.iaload, 1) := by decide +kernel
theorem dL_law_670 : decode cL_law 670 = .ok (.ifCond .eq 7, 3) := by decide +kernel
theorem dL_law_673 : decode cL_law 673 = .ok (.iconst 1, 1) := by decide +kernel
theorem dL_law_674 : decode cL_law 674 = .ok (.goto 4, 3) := by decide +kernel
theorem dL_law_677 : decode cL_law 677 = .ok (.iconst 0, 1) := by decide +kernel
theorem dL_law_678 : decode cL_law 678 = .ok (.invokevirtual 88, 3) := by decide +kernel
theorem dL_law_681 : decode cL_law 681 = .ok (.if_icmp .eq 5, 3) := by decide +kernel
theorem dL_law_684 : decode cL_law 684 = .ok (.iconst 0, 1) := by decide +kernel
theorem dL_law_685 : decode cL_law 685 = .ok (.ireturn, 1) := by decide +kernel
theorem dL_law_686 : decode cL_law 686 = .ok (.iinc 3 5, 3) := by decide +kernel
theorem dL_law_689 : decode cL_law 689 = .ok (.goto (-671), 3) := by decide +kernel
theorem dL_law_692 : decode cL_law 692 = .ok (.iconst 1, 1) := by decide +kernel
theorem dL_law_693 : decode cL_law 693 = .ok (.ireturn, 1) := by decide +kernel
def RX3 : String := "ForkedPagesModel"
def TX3 : u_T := fun k => match k with
  | 0 => ("ForkedPagesModel", "runs", "[Z", false)
  | 1 => ("ForkedPagesModel", "frame", "[I", false)
  | 2 => ("ForkedPagesModel", "common", "[Z", false)
  | 3 => ("ForkedPagesModel", "writable", "[Z", false)
  | 4 => ("ForkedPagesModel", "marked", "[Z", false)
  | 5 => ("ForkedPagesModel", "words", "[I", false)
  | 6 => ("ForkedPagesModel", "faultCount", "I", false)
  | _ => ("ForkedPagesModel", "copyCount", "I", false)
def tyX3 : Nat → FieldType := fun k => match k with
  | 0 => .array .boolean
  | 1 => .array .int
  | 2 => .array .boolean
  | 3 => .array .boolean
  | 4 => .array .boolean
  | 5 => .array .int
  | 6 => .int
  | _ => .int
theorem nmX3 : ∀ a, a < 8 → ∀ b, b < 8 → a ≠ b → (TX3 a).2.1 ≠ (TX3 b).2.1 := by decide +kernel
theorem tyX3_ok : ∀ k, k < 8 → parseFieldDescriptor (TX3 k).2.2.1 = some (tyX3 k) := by decide +kernel
abbrev cX3_init : ByteArray := prog_5_method_1_code
def yX3_init : MethodName := ⟨RX3, "<init>", "()V"⟩
abbrev cX3_free : ByteArray := prog_5_method_7_code
def yX3_free : MethodName := ⟨RX3, "free", "()I"⟩
abbrev cX3_leads : ByteArray := prog_5_method_6_code
def yX3_leads : MethodName := ⟨RX3, "leads", "(I)I"⟩
abbrev cX3_tablesOf : ByteArray := prog_5_method_5_code
def yX3_tablesOf : MethodName := ⟨RX3, "tablesOf", "(I)I"⟩
abbrev cX3_some : ByteArray := prog_5_method_4_code
def yX3_some : MethodName := ⟨RX3, "some", "(III)Z"⟩
abbrev cX3_spawn : ByteArray := prog_5_method_11_code
def yX3_spawn : MethodName := ⟨RX3, "spawn", "()I"⟩
abbrev cX3_idle : ByteArray := prog_5_method_10_code
def yX3_idle : MethodName := ⟨RX3, "idle", "()I"⟩
abbrev cX3_fork : ByteArray := prog_5_method_12_code
def yX3_fork : MethodName := ⟨RX3, "fork", "(I)I"⟩
abbrev cX3_away : ByteArray := prog_5_method_2_code
def yX3_away : MethodName := ⟨RX3, "away", "(I)Z"⟩
abbrev cX3_exit : ByteArray := prog_5_method_14_code
def yX3_exit : MethodName := ⟨RX3, "exit", "(I)I"⟩
abbrev cX3_clear : ByteArray := prog_5_method_13_code
def yX3_clear : MethodName := ⟨RX3, "clear", "(I)V"⟩
abbrev cX3_map : ByteArray := prog_5_method_15_code
def yX3_map : MethodName := ⟨RX3, "map", "(IIZ)I"⟩
abbrev cX3_isPage : ByteArray := prog_5_method_3_code
def yX3_isPage : MethodName := ⟨RX3, "isPage", "(I)Z"⟩
abbrev cX3_more : ByteArray := prog_5_method_9_code
def yX3_more : MethodName := ⟨RX3, "more", "(II)I"⟩
abbrev cX3_unused : ByteArray := prog_5_method_8_code
def yX3_unused : MethodName := ⟨RX3, "unused", "()I"⟩
abbrev cX3_attach : ByteArray := prog_5_method_16_code
def yX3_attach : MethodName := ⟨RX3, "attach", "(IIII)I"⟩
abbrev cX3_unmap : ByteArray := prog_5_method_18_code
def yX3_unmap : MethodName := ⟨RX3, "unmap", "(II)I"⟩
abbrev cX3_bar : ByteArray := prog_5_method_17_code
def yX3_bar : MethodName := ⟨RX3, "bar", "(II)I"⟩
abbrev cX3_protect : ByteArray := prog_5_method_19_code
def yX3_protect : MethodName := ⟨RX3, "protect", "(IIZ)I"⟩
abbrev cX3_write : ByteArray := prog_5_method_21_code
def yX3_write : MethodName := ⟨RX3, "write", "(III)I"⟩
abbrev cX3_pageOf : ByteArray := prog_5_method_20_code
def yX3_pageOf : MethodName := ⟨RX3, "pageOf", "(I)I"⟩
abbrev cX3_read : ByteArray := prog_5_method_22_code
def yX3_read : MethodName := ⟨RX3, "read", "(II)J"⟩
abbrev cX3_tables : ByteArray := prog_5_method_23_code
def yX3_tables : MethodName := ⟨RX3, "tables", "(I)I"⟩
abbrev cX3_pages : ByteArray := prog_5_method_24_code
def yX3_pages : MethodName := ⟨RX3, "pages", "(I)I"⟩
abbrev cX3_count : ByteArray := prog_5_method_25_code
def yX3_count : MethodName := ⟨RX3, "count", "(II)I"⟩
abbrev cX3_mapping : ByteArray := prog_5_method_26_code
def yX3_mapping : MethodName := ⟨RX3, "mapping", "(II)I"⟩
abbrev cX3_twin : ByteArray := prog_5_method_27_code
def yX3_twin : MethodName := ⟨RX3, "twin", "(IIII)I"⟩
abbrev cX3_running : ByteArray := prog_5_method_28_code
def yX3_running : MethodName := ⟨RX3, "running", "()I"⟩
abbrev cX3_faults : ByteArray := prog_5_method_29_code
def yX3_faults : MethodName := ⟨RX3, "faults", "(Z)I"⟩
theorem dX3_init_0 : decode cX3_init 0 = .ok (.aload_n 0, 1) := by decide +kernel
theorem dX3_init_1 : decode cX3_init 1 = .ok (.invokespecial 1, 3) := by decide +kernel
theorem dX3_init_4 : decode cX3_init 4 = .ok (.aload_n 0, 1) := by decide +kernel
theorem dX3_init_5 : decode cX3_init 5 = .ok (.iconst 5, 1) := by decide +kernel
theorem dX3_init_6 : decode cX3_init 6 = .ok (.newarray .boolean, 2) := by decide +kernel
theorem dX3_init_8 : decode cX3_init 8 = .ok (.putfield 7, 3) := by decide +kernel
theorem dX3_init_11 : decode cX3_init 11 = .ok (.aload_n 0, 1) := by decide +kernel
theorem dX3_init_12 : decode cX3_init 12 = .ok (.sipush 320, 3) := by decide +kernel
theorem dX3_init_15 : decode cX3_init 15 = .ok (.newarray .int, 2) := by decide +kernel
theorem dX3_init_17 : decode cX3_init 17 = .ok (.putfield 13, 3) := by decide +kernel
theorem dX3_init_20 : decode cX3_init 20 = .ok (.aload_n 0, 1) := by decide +kernel
theorem dX3_init_21 : decode cX3_init 21 = .ok (.sipush 320, 3) := by decide +kernel
theorem dX3_init_24 : decode cX3_init 24 = .ok (.newarray .boolean, 2) := by decide +kernel
theorem dX3_init_26 : decode cX3_init 26 = .ok (.putfield 17, 3) := by decide +kernel
theorem dX3_init_29 : decode cX3_init 29 = .ok (.aload_n 0, 1) := by decide +kernel
theorem dX3_init_30 : decode cX3_init 30 = .ok (.sipush 320, 3) := by decide +kernel
theorem dX3_init_33 : decode cX3_init 33 = .ok (.newarray .boolean, 2) := by decide +kernel
theorem dX3_init_35 : decode cX3_init 35 = .ok (.putfield 20, 3) := by decide +kernel
theorem dX3_init_38 : decode cX3_init 38 = .ok (.aload_n 0, 1) := by decide +kernel
theorem dX3_init_39 : decode cX3_init 39 = .ok (.sipush 320, 3) := by decide +kernel
theorem dX3_init_42 : decode cX3_init 42 = .ok (.newarray .boolean, 2) := by decide +kernel
theorem dX3_init_44 : decode cX3_init 44 = .ok (.putfield 23, 3) := by decide +kernel
theorem dX3_init_47 : decode cX3_init 47 = .ok (.aload_n 0, 1) := by decide +kernel
theorem dX3_init_48 : decode cX3_init 48 = .ok (.bipush 96, 2) := by decide +kernel
theorem dX3_init_50 : decode cX3_init 50 = .ok (.newarray .int, 2) := by decide +kernel
theorem dX3_init_52 : decode cX3_init 52 = .ok (.putfield 26, 3) := by decide +kernel
theorem dX3_init_55 : decode cX3_init 55 = .ok (.return_, 1) := by decide +kernel
theorem dX3_away_0 : decode cX3_away 0 = .ok (.iload_n 1, 1) := by decide +kernel
theorem dX3_away_1 : decode cX3_away 1 = .ok (.ifCond .lt 17, 3) := by decide +kernel
theorem dX3_away_4 : decode cX3_away 4 = .ok (.iload_n 1, 1) := by decide +kernel
theorem dX3_away_5 : decode cX3_away 5 = .ok (.iconst 4, 1) := by decide +kernel
theorem dX3_away_6 : decode cX3_away 6 = .ok (.if_icmp .gt 12, 3) := by decide +kernel
theorem dX3_away_9 : decode cX3_away 9 = .ok (.aload_n 0, 1) := by decide +kernel
theorem dX3_away_10 : decode cX3_away 10 = .ok (.getfield 7, 3) := by decide +kernel
theorem dX3_away_13 : decode cX3_away 13 = .ok (.iload_n 1, 1) := by decide +kernel
theorem dX3_away_14 : decode cX3_away 14 = .ok (.baload, 1) := by decide +kernel
theorem dX3_away_15 : decode cX3_away 15 = .ok (.ifCond .ne 7, 3) := by decide +kernel
theorem dX3_away_18 : decode cX3_away 18 = .ok (.iconst 1, 1) := by decide +kernel
theorem dX3_away_19 : decode cX3_away 19 = .ok (.goto 4, 3) := by decide +kernel
theorem dX3_away_22 : decode cX3_away 22 = .ok (.iconst 0, 1) := by decide +kernel
theorem dX3_away_23 : decode cX3_away 23 = .ok (.ireturn, 1) := by decide +kernel
theorem dX3_isPage_0 : decode cX3_isPage 0 = .ok (.iload_n 0, 1) := by decide +kernel
theorem dX3_isPage_1 : decode cX3_isPage 1 = .ok (.ifCond .lt 13, 3) := by decide +kernel
theorem dX3_isPage_4 : decode cX3_isPage 4 = .ok (.iload_n 0, 1) := by decide +kernel
theorem dX3_isPage_5 : decode cX3_isPage 5 = .ok (.bipush 63, 2) := by decide +kernel
theorem dX3_isPage_7 : decode cX3_isPage 7 = .ok (.if_icmp .gt 7, 3) := by decide +kernel
theorem dX3_isPage_10 : decode cX3_isPage 10 = .ok (.iconst 1, 1) := by decide +kernel
theorem dX3_isPage_11 : decode cX3_isPage 11 = .ok (.goto 4, 3) := by decide +kernel
theorem dX3_isPage_14 : decode cX3_isPage 14 = .ok (.iconst 0, 1) := by decide +kernel
theorem dX3_isPage_15 : decode cX3_isPage 15 = .ok (.ireturn, 1) := by decide +kernel
theorem dX3_some_0 : decode cX3_some 0 = .ok (.iconst 0, 1) := by decide +kernel
theorem dX3_some_1 : decode cX3_some 1 = .ok (.istore 4, 2) := by decide +kernel
theorem dX3_some_3 : decode cX3_some 3 = .ok (.iconst 0, 1) := by decide +kernel
theorem dX3_some_4 : decode cX3_some 4 = .ok (.istore 5, 2) := by decide +kernel
theorem dX3_some_6 : decode cX3_some 6 = .ok (.iload 5, 2) := by decide +kernel
theorem dX3_some_8 : decode cX3_some 8 = .ok (.iload_n 3, 1) := by decide +kernel
theorem dX3_some_9 : decode cX3_some 9 = .ok (.if_icmp .ge 38, 3) := by decide +kernel
theorem dX3_some_12 : decode cX3_some 12 = .ok (.iload 4, 2) := by decide +kernel
theorem dX3_some_14 : decode cX3_some 14 = .ok (.ifCond .ne 20, 3) := by decide +kernel
theorem dX3_some_17 : decode cX3_some 17 = .ok (.aload_n 0, 1) := by decide +kernel
theorem dX3_some_18 : decode cX3_some 18 = .ok (.getfield 13, 3) := by decide +kernel
theorem dX3_some_21 : decode cX3_some 21 = .ok (.bipush 64, 2) := by decide +kernel
theorem dX3_some_23 : decode cX3_some 23 = .ok (.iload_n 1, 1) := by decide +kernel
theorem dX3_some_24 : decode cX3_some 24 = .ok (.imul, 1) := by decide +kernel
theorem dX3_some_25 : decode cX3_some 25 = .ok (.iload_n 2, 1) := by decide +kernel
theorem dX3_some_26 : decode cX3_some 26 = .ok (.iadd, 1) := by decide +kernel
theorem dX3_some_27 : decode cX3_some 27 = .ok (.iload 5, 2) := by decide +kernel
theorem dX3_some_29 : decode cX3_some 29 = .ok (.iadd, 1) := by decide +kernel
theorem dX3_some_30 : decode cX3_some 30 = .ok (.iaload, 1) := by decide +kernel
theorem dX3_some_31 : decode cX3_some 31 = .ok (.ifCond .le 7, 3) := by decide +kernel
theorem dX3_some_34 : decode cX3_some 34 = .ok (.iconst 1, 1) := by decide +kernel
theorem dX3_some_35 : decode cX3_some 35 = .ok (.goto 4, 3) := by decide +kernel
theorem dX3_some_38 : decode cX3_some 38 = .ok (.iconst 0, 1) := by decide +kernel
theorem dX3_some_39 : decode cX3_some 39 = .ok (.istore 4, 2) := by decide +kernel
theorem dX3_some_41 : decode cX3_some 41 = .ok (.iinc 5 1, 3) := by decide +kernel
theorem dX3_some_44 : decode cX3_some 44 = .ok (.goto (-38), 3) := by decide +kernel
theorem dX3_some_47 : decode cX3_some 47 = .ok (.iload 4, 2) := by decide +kernel
theorem dX3_some_49 : decode cX3_some 49 = .ok (.ireturn, 1) := by decide +kernel
theorem dX3_tablesOf_0 : decode cX3_tablesOf 0 = .ok (.iconst 1, 1) := by decide +kernel
theorem dX3_tablesOf_1 : decode cX3_tablesOf 1 = .ok (.istore_n 2, 1) := by decide +kernel
theorem dX3_tablesOf_2 : decode cX3_tablesOf 2 = .ok (.iconst 0, 1) := by decide +kernel
theorem dX3_tablesOf_3 : decode cX3_tablesOf 3 = .ok (.istore_n 3, 1) := by decide +kernel
theorem dX3_tablesOf_4 : decode cX3_tablesOf 4 = .ok (.iload_n 3, 1) := by decide +kernel
theorem dX3_tablesOf_5 : decode cX3_tablesOf 5 = .ok (.bipush 64, 2) := by decide +kernel
theorem dX3_tablesOf_7 : decode cX3_tablesOf 7 = .ok (.if_icmp .ge 27, 3) := by decide +kernel
theorem dX3_tablesOf_10 : decode cX3_tablesOf 10 = .ok (.aload_n 0, 1) := by decide +kernel
theorem dX3_tablesOf_11 : decode cX3_tablesOf 11 = .ok (.iload_n 1, 1) := by decide +kernel
theorem dX3_tablesOf_12 : decode cX3_tablesOf 12 = .ok (.iload_n 3, 1) := by decide +kernel
theorem dX3_tablesOf_13 : decode cX3_tablesOf 13 = .ok (.iconst 4, 1) := by decide +kernel
theorem dX3_tablesOf_14 : decode cX3_tablesOf 14 = .ok (.invokevirtual 29, 3) := by decide +kernel
theorem dX3_tablesOf_17 : decode cX3_tablesOf 17 = .ok (.ifCond .eq 9, 3) := by decide +kernel
theorem dX3_tablesOf_20 : decode cX3_tablesOf 20 = .ok (.iload_n 2, 1) := by decide +kernel
theorem dX3_tablesOf_21 : decode cX3_tablesOf 21 = .ok (.iconst 1, 1) := by decide +kernel
theorem dX3_tablesOf_22 : decode cX3_tablesOf 22 = .ok (.iadd, 1) := by decide +kernel
theorem dX3_tablesOf_23 : decode cX3_tablesOf 23 = .ok (.goto 4, 3) := by decide +kernel
theorem dX3_tablesOf_26 : decode cX3_tablesOf 26 = .ok (.iload_n 2, 1) := by decide +kernel
theorem dX3_tablesOf_27 : decode cX3_tablesOf 27 = .ok (.istore_n 2, 1) := by decide +kernel
theorem dX3_tablesOf_28 : decode cX3_tablesOf 28 = .ok (.iinc 3 4, 3) := by decide +kernel
theorem dX3_tablesOf_31 : decode cX3_tablesOf 31 = .ok (.goto (-27), 3) := by decide +kernel
theorem dX3_tablesOf_34 : decode cX3_tablesOf 34 = .ok (.iconst 0, 1) := by decide +kernel
theorem dX3_tablesOf_35 : decode cX3_tablesOf 35 = .ok (.istore_n 3, 1) := by decide +kernel
theorem dX3_tablesOf_36 : decode cX3_tablesOf 36 = .ok (.iload_n 3, 1) := by decide +kernel
theorem dX3_tablesOf_37 : decode cX3_tablesOf 37 = .ok (.bipush 64, 2) := by decide +kernel
theorem dX3_tablesOf_39 : decode cX3_tablesOf 39 = .ok (.if_icmp .ge 28, 3) := by decide +kernel
theorem dX3_tablesOf_42 : decode cX3_tablesOf 42 = .ok (.aload_n 0, 1) := by decide +kernel
theorem dX3_tablesOf_43 : decode cX3_tablesOf 43 = .ok (.iload_n 1, 1) := by decide +kernel
theorem dX3_tablesOf_44 : decode cX3_tablesOf 44 = .ok (.iload_n 3, 1) := by decide +kernel
theorem dX3_tablesOf_45 : decode cX3_tablesOf 45 = .ok (.bipush 16, 2) := by decide +kernel
theorem dX3_tablesOf_47 : decode cX3_tablesOf 47 = .ok (.invokevirtual 29, 3) := by decide +kernel
theorem dX3_tablesOf_50 : decode cX3_tablesOf 50 = .ok (.ifCond .eq 9, 3) := by decide +kernel
theorem dX3_tablesOf_53 : decode cX3_tablesOf 53 = .ok (.iload_n 2, 1) := by decide +kernel
theorem dX3_tablesOf_54 : decode cX3_tablesOf 54 = .ok (.iconst 1, 1) := by decide +kernel
theorem dX3_tablesOf_55 : decode cX3_tablesOf 55 = .ok (.iadd, 1) := by decide +kernel
theorem dX3_tablesOf_56 : decode cX3_tablesOf 56 = .ok (.goto 4, 3) := by decide +kernel
theorem dX3_tablesOf_59 : decode cX3_tablesOf 59 = .ok (.iload_n 2, 1) := by decide +kernel
theorem dX3_tablesOf_60 : decode cX3_tablesOf 60 = .ok (.istore_n 2, 1) := by decide +kernel
theorem dX3_tablesOf_61 : decode cX3_tablesOf 61 = .ok (.iinc 3 16, 3) := by decide +kernel
theorem dX3_tablesOf_64 : decode cX3_tablesOf 64 = .ok (.goto (-28), 3) := by decide +kernel
theorem dX3_tablesOf_67 : decode cX3_tablesOf 67 = .ok (.iload_n 2, 1) := by decide +kernel
theorem dX3_tablesOf_68 : decode cX3_tablesOf 68 = .ok (.ireturn, 1) := by decide +kernel
theorem dX3_leads_0 : decode cX3_leads 0 = .ok (.iconst 0, 1) := by decide +kernel
theorem dX3_leads_1 : decode cX3_leads 1 = .ok (.istore_n 2, 1) := by decide +kernel
theorem dX3_leads_2 : decode cX3_leads 2 = .ok (.iconst 0, 1) := by decide +kernel
theorem dX3_leads_3 : decode cX3_leads 3 = .ok (.istore_n 3, 1) := by decide +kernel
theorem dX3_leads_4 : decode cX3_leads 4 = .ok (.iload_n 3, 1) := by decide +kernel
theorem dX3_leads_5 : decode cX3_leads 5 = .ok (.sipush 320, 3) := by decide +kernel
theorem dX3_leads_8 : decode cX3_leads 8 = .ok (.if_icmp .ge 29, 3) := by decide +kernel
theorem dX3_leads_11 : decode cX3_leads 11 = .ok (.aload_n 0, 1) := by decide +kernel
theorem dX3_leads_12 : decode cX3_leads 12 = .ok (.getfield 13, 3) := by decide +kernel
theorem dX3_leads_15 : decode cX3_leads 15 = .ok (.iload_n 3, 1) := by decide +kernel
theorem dX3_leads_16 : decode cX3_leads 16 = .ok (.iaload, 1) := by decide +kernel
theorem dX3_leads_17 : decode cX3_leads 17 = .ok (.iload_n 1, 1) := by decide +kernel
theorem dX3_leads_18 : decode cX3_leads 18 = .ok (.iconst 1, 1) := by decide +kernel
theorem dX3_leads_19 : decode cX3_leads 19 = .ok (.iadd, 1) := by decide +kernel
theorem dX3_leads_20 : decode cX3_leads 20 = .ok (.if_icmp .ne 9, 3) := by decide +kernel
theorem dX3_leads_23 : decode cX3_leads 23 = .ok (.iload_n 2, 1) := by decide +kernel
theorem dX3_leads_24 : decode cX3_leads 24 = .ok (.iconst 1, 1) := by decide +kernel
theorem dX3_leads_25 : decode cX3_leads 25 = .ok (.iadd, 1) := by decide +kernel
theorem dX3_leads_26 : decode cX3_leads 26 = .ok (.goto 4, 3) := by decide +kernel
theorem dX3_leads_29 : decode cX3_leads 29 = .ok (.iload_n 2, 1) := by decide +kernel
theorem dX3_leads_30 : decode cX3_leads 30 = .ok (.istore_n 2, 1) := by decide +kernel
theorem dX3_leads_31 : decode cX3_leads 31 = .ok (.iinc 3 1, 3) := by decide +kernel
theorem dX3_leads_34 : decode cX3_leads 34 = .ok (.goto (-30), 3) := by decide +kernel
theorem dX3_leads_37 : decode cX3_leads 37 = .ok (.iload_n 2, 1) := by decide +kernel
theorem dX3_leads_38 : decode cX3_leads 38 = .ok (.ireturn, 1) := by decide +kernel
theorem dX3_free_0 : decode cX3_free 0 = .ok (.bipush 24, 2) := by decide +kernel
theorem dX3_free_2 : decode cX3_free 2 = .ok (.istore_n 1, 1) := by decide +kernel
theorem dX3_free_3 : decode cX3_free 3 = .ok (.iconst 0, 1) := by decide +kernel
theorem dX3_free_4 : decode cX3_free 4 = .ok (.istore_n 2, 1) := by decide +kernel
theorem dX3_free_5 : decode cX3_free 5 = .ok (.iload_n 2, 1) := by decide +kernel
theorem dX3_free_6 : decode cX3_free 6 = .ok (.bipush 24, 2) := by decide +kernel
theorem dX3_free_8 : decode cX3_free 8 = .ok (.if_icmp .ge 25, 3) := by decide +kernel
theorem dX3_free_11 : decode cX3_free 11 = .ok (.aload_n 0, 1) := by decide +kernel
theorem dX3_free_12 : decode cX3_free 12 = .ok (.iload_n 2, 1) := by decide +kernel
theorem dX3_free_13 : decode cX3_free 13 = .ok (.invokevirtual 33, 3) := by decide +kernel
theorem dX3_free_16 : decode cX3_free 16 = .ok (.ifCond .le 9, 3) := by decide +kernel
theorem dX3_free_19 : decode cX3_free 19 = .ok (.iload_n 1, 1) := by decide +kernel
theorem dX3_free_20 : decode cX3_free 20 = .ok (.iconst 1, 1) := by decide +kernel
theorem dX3_free_21 : decode cX3_free 21 = .ok (.isub, 1) := by decide +kernel
theorem dX3_free_22 : decode cX3_free 22 = .ok (.goto 4, 3) := by decide +kernel
theorem dX3_free_25 : decode cX3_free 25 = .ok (.iload_n 1, 1) := by decide +kernel
theorem dX3_free_26 : decode cX3_free 26 = .ok (.istore_n 1, 1) := by decide +kernel
theorem dX3_free_27 : decode cX3_free 27 = .ok (.iinc 2 1, 3) := by decide +kernel
theorem dX3_free_30 : decode cX3_free 30 = .ok (.goto (-25), 3) := by decide +kernel
theorem dX3_free_33 : decode cX3_free 33 = .ok (.iconst 0, 1) := by decide +kernel
theorem dX3_free_34 : decode cX3_free 34 = .ok (.istore_n 2, 1) := by decide +kernel
theorem dX3_free_35 : decode cX3_free 35 = .ok (.iload_n 2, 1) := by decide +kernel
theorem dX3_free_36 : decode cX3_free 36 = .ok (.iconst 5, 1) := by decide +kernel
theorem dX3_free_37 : decode cX3_free 37 = .ok (.if_icmp .ge 30, 3) := by decide +kernel
theorem dX3_free_40 : decode cX3_free 40 = .ok (.aload_n 0, 1) := by decide +kernel
theorem dX3_free_41 : decode cX3_free 41 = .ok (.getfield 7, 3) := by decide +kernel
theorem dX3_free_44 : decode cX3_free 44 = .ok (.iload_n 2, 1) := by decide +kernel
theorem dX3_free_45 : decode cX3_free 45 = .ok (.baload, 1) := by decide +kernel
theorem dX3_free_46 : decode cX3_free 46 = .ok (.ifCond .eq 13, 3) := by decide +kernel
theorem dX3_free_49 : decode cX3_free 49 = .ok (.iload_n 1, 1) := by decide +kernel
theorem dX3_free_50 : decode cX3_free 50 = .ok (.aload_n 0, 1) := by decide +kernel
theorem dX3_free_51 : decode cX3_free 51 = .ok (.iload_n 2, 1) := by decide +kernel
theorem dX3_free_52 : decode cX3_free 52 = .ok (.invokevirtual 37, 3) := by decide +kernel
theorem dX3_free_55 : decode cX3_free 55 = .ok (.isub, 1) := by decide +kernel
theorem dX3_free_56 : decode cX3_free 56 = .ok (.goto 4, 3) := by decide +kernel
theorem dX3_free_59 : decode cX3_free 59 = .ok (.iload_n 1, 1) := by decide +kernel
theorem dX3_free_60 : decode cX3_free 60 = .ok (.istore_n 1, 1) := by decide +kernel
theorem dX3_free_61 : decode cX3_free 61 = .ok (.iinc 2 1, 3) := by decide +kernel
theorem dX3_free_64 : decode cX3_free 64 = .ok (.goto (-29), 3) := by decide +kernel
theorem dX3_free_67 : decode cX3_free 67 = .ok (.iload_n 1, 1) := by decide +kernel
theorem dX3_free_68 : decode cX3_free 68 = .ok (.ireturn, 1) := by decide +kernel
theorem dX3_unused_0 : decode cX3_unused 0 = .ok (.iconst 0, 1) := by decide +kernel
theorem dX3_unused_1 : decode cX3_unused 1 = .ok (.istore_n 1, 1) := by decide +kernel
theorem dX3_unused_2 : decode cX3_unused 2 = .ok (.iload_n 1, 1) := by decide +kernel
theorem dX3_unused_3 : decode cX3_unused 3 = .ok (.bipush 23, 2) := by decide +kernel
theorem dX3_unused_5 : decode cX3_unused 5 = .ok (.if_icmp .ge 17, 3) := by decide +kernel
theorem dX3_unused_8 : decode cX3_unused 8 = .ok (.aload_n 0, 1) := by decide +kernel
theorem dX3_unused_9 : decode cX3_unused 9 = .ok (.iload_n 1, 1) := by decide +kernel
theorem dX3_unused_10 : decode cX3_unused 10 = .ok (.invokevirtual 33, 3) := by decide +kernel
theorem dX3_unused_13 : decode cX3_unused 13 = .ok (.ifCond .le 9, 3) := by decide +kernel
theorem dX3_unused_16 : decode cX3_unused 16 = .ok (.iinc 1 1, 3) := by decide +kernel
theorem dX3_unused_19 : decode cX3_unused 19 = .ok (.goto (-17), 3) := by decide +kernel
theorem dX3_unused_22 : decode cX3_unused 22 = .ok (.iload_n 1, 1) := by decide +kernel
theorem dX3_unused_23 : decode cX3_unused 23 = .ok (.ireturn, 1) := by decide +kernel
theorem dX3_more_0 : decode cX3_more 0 = .ok (.aload_n 0, 1) := by decide +kernel
theorem dX3_more_1 : decode cX3_more 1 = .ok (.iload_n 1, 1) := by decide +kernel
theorem dX3_more_2 : decode cX3_more 2 = .ok (.iload_n 2, 1) := by decide +kernel
theorem dX3_more_3 : decode cX3_more 3 = .ok (.iconst 4, 1) := by decide +kernel
theorem dX3_more_4 : decode cX3_more 4 = .ok (.idiv, 1) := by decide +kernel
theorem dX3_more_5 : decode cX3_more 5 = .ok (.iconst 4, 1) := by decide +kernel
theorem dX3_more_6 : decode cX3_more 6 = .ok (.imul, 1) := by decide +kernel
theorem dX3_more_7 : decode cX3_more 7 = .ok (.iconst 4, 1) := by decide +kernel
theorem dX3_more_8 : decode cX3_more 8 = .ok (.invokevirtual 29, 3) := by decide +kernel
theorem dX3_more_11 : decode cX3_more 11 = .ok (.ifCond .eq 7, 3) := by decide +kernel
theorem dX3_more_14 : decode cX3_more 14 = .ok (.iconst 0, 1) := by decide +kernel
theorem dX3_more_15 : decode cX3_more 15 = .ok (.goto 4, 3) := by decide +kernel
theorem dX3_more_18 : decode cX3_more 18 = .ok (.iconst 1, 1) := by decide +kernel
theorem dX3_more_19 : decode cX3_more 19 = .ok (.aload_n 0, 1) := by decide +kernel
theorem dX3_more_20 : decode cX3_more 20 = .ok (.iload_n 1, 1) := by decide +kernel
theorem dX3_more_21 : decode cX3_more 21 = .ok (.iload_n 2, 1) := by decide +kernel
theorem dX3_more_22 : decode cX3_more 22 = .ok (.bipush 16, 2) := by decide +kernel
theorem dX3_more_24 : decode cX3_more 24 = .ok (.idiv, 1) := by decide +kernel
theorem dX3_more_25 : decode cX3_more 25 = .ok (.bipush 16, 2) := by decide +kernel
theorem dX3_more_27 : decode cX3_more 27 = .ok (.imul, 1) := by decide +kernel
theorem dX3_more_28 : decode cX3_more 28 = .ok (.bipush 16, 2) := by decide +kernel
theorem dX3_more_30 : decode cX3_more 30 = .ok (.invokevirtual 29, 3) := by decide +kernel
theorem dX3_more_33 : decode cX3_more 33 = .ok (.ifCond .eq 7, 3) := by decide +kernel
theorem dX3_more_36 : decode cX3_more 36 = .ok (.iconst 0, 1) := by decide +kernel
theorem dX3_more_37 : decode cX3_more 37 = .ok (.goto 4, 3) := by decide +kernel
theorem dX3_more_40 : decode cX3_more 40 = .ok (.iconst 1, 1) := by decide +kernel
theorem dX3_more_41 : decode cX3_more 41 = .ok (.iadd, 1) := by decide +kernel
theorem dX3_more_42 : decode cX3_more 42 = .ok (.ireturn, 1) := by decide +kernel
theorem dX3_idle_0 : decode cX3_idle 0 = .ok (.iconst 0, 1) := by decide +kernel
theorem dX3_idle_1 : decode cX3_idle 1 = .ok (.istore_n 1, 1) := by decide +kernel
theorem dX3_idle_2 : decode cX3_idle 2 = .ok (.iload_n 1, 1) := by decide +kernel
theorem dX3_idle_3 : decode cX3_idle 3 = .ok (.iconst 5, 1) := by decide +kernel
theorem dX3_idle_4 : decode cX3_idle 4 = .ok (.if_icmp .ge 18, 3) := by decide +kernel
theorem dX3_idle_7 : decode cX3_idle 7 = .ok (.aload_n 0, 1) := by decide +kernel
theorem dX3_idle_8 : decode cX3_idle 8 = .ok (.getfield 7, 3) := by decide +kernel
theorem dX3_idle_11 : decode cX3_idle 11 = .ok (.iload_n 1, 1) := by decide +kernel
theorem dX3_idle_12 : decode cX3_idle 12 = .ok (.baload, 1) := by decide +kernel
theorem dX3_idle_13 : decode cX3_idle 13 = .ok (.ifCond .eq 9, 3) := by decide +kernel
theorem dX3_idle_16 : decode cX3_idle 16 = .ok (.iinc 1 1, 3) := by decide +kernel
theorem dX3_idle_19 : decode cX3_idle 19 = .ok (.goto (-17), 3) := by decide +kernel
theorem dX3_idle_22 : decode cX3_idle 22 = .ok (.iload_n 1, 1) := by decide +kernel
theorem dX3_idle_23 : decode cX3_idle 23 = .ok (.ireturn, 1) := by decide +kernel
theorem dX3_spawn_0 : decode cX3_spawn 0 = .ok (.aload_n 0, 1) := by decide +kernel
theorem dX3_spawn_1 : decode cX3_spawn 1 = .ok (.invokevirtual 40, 3) := by decide +kernel
theorem dX3_spawn_4 : decode cX3_spawn 4 = .ok (.istore_n 1, 1) := by decide +kernel
theorem dX3_spawn_5 : decode cX3_spawn 5 = .ok (.iload_n 1, 1) := by decide +kernel
theorem dX3_spawn_6 : decode cX3_spawn 6 = .ok (.iconst 5, 1) := by decide +kernel
theorem dX3_spawn_7 : decode cX3_spawn 7 = .ok (.if_icmp .ne 6, 3) := by decide +kernel
theorem dX3_spawn_10 : decode cX3_spawn 10 = .ok (.bipush (-7), 2) := by decide +kernel
theorem dX3_spawn_12 : decode cX3_spawn 12 = .ok (.ireturn, 1) := by decide +kernel
theorem dX3_spawn_13 : decode cX3_spawn 13 = .ok (.aload_n 0, 1) := by decide +kernel
theorem dX3_spawn_14 : decode cX3_spawn 14 = .ok (.invokevirtual 44, 3) := by decide +kernel
theorem dX3_spawn_17 : decode cX3_spawn 17 = .ok (.iconst 1, 1) := by decide +kernel
theorem dX3_spawn_18 : decode cX3_spawn 18 = .ok (.if_icmp .ge 6, 3) := by decide +kernel
theorem dX3_spawn_21 : decode cX3_spawn 21 = .ok (.bipush (-8), 2) := by decide +kernel
theorem dX3_spawn_23 : decode cX3_spawn 23 = .ok (.ireturn, 1) := by decide +kernel
theorem dX3_spawn_24 : decode cX3_spawn 24 = .ok (.aload_n 0, 1) := by decide +kernel
theorem dX3_spawn_25 : decode cX3_spawn 25 = .ok (.getfield 7, 3) := by decide +kernel
theorem dX3_spawn_28 : decode cX3_spawn 28 = .ok (.iload_n 1, 1) := by decide +kernel
theorem dX3_spawn_29 : decode cX3_spawn 29 = .ok (.iconst 1, 1) := by decide +kernel
theorem dX3_spawn_30 : decode cX3_spawn 30 = .ok (.bastore, 1) := by decide +kernel
theorem dX3_spawn_31 : decode cX3_spawn 31 = .ok (.iload_n 1, 1) := by decide +kernel
theorem dX3_spawn_32 : decode cX3_spawn 32 = .ok (.ireturn, 1) := by decide +kernel
theorem dX3_fork_0 : decode cX3_fork 0 = .ok (.aload_n 0, 1) := by decide +kernel
theorem dX3_fork_1 : decode cX3_fork 1 = .ok (.iload_n 1, 1) := by decide +kernel
theorem dX3_fork_2 : decode cX3_fork 2 = .ok (.invokevirtual 47, 3) := by decide +kernel
theorem dX3_fork_5 : decode cX3_fork 5 = .ok (.ifCond .eq 5, 3) := by decide +kernel
theorem dX3_fork_8 : decode cX3_fork 8 = .ok (.iconst (-1), 1) := by decide +kernel
theorem dX3_fork_9 : decode cX3_fork 9 = .ok (.ireturn, 1) := by decide +kernel
theorem dX3_fork_10 : decode cX3_fork 10 = .ok (.aload_n 0, 1) := by decide +kernel
theorem dX3_fork_11 : decode cX3_fork 11 = .ok (.invokevirtual 40, 3) := by decide +kernel
theorem dX3_fork_14 : decode cX3_fork 14 = .ok (.istore_n 2, 1) := by decide +kernel
theorem dX3_fork_15 : decode cX3_fork 15 = .ok (.iload_n 2, 1) := by decide +kernel
theorem dX3_fork_16 : decode cX3_fork 16 = .ok (.iconst 5, 1) := by decide +kernel
theorem dX3_fork_17 : decode cX3_fork 17 = .ok (.if_icmp .ne 6, 3) := by decide +kernel
theorem dX3_fork_20 : decode cX3_fork 20 = .ok (.bipush (-7), 2) := by decide +kernel
theorem dX3_fork_22 : decode cX3_fork 22 = .ok (.ireturn, 1) := by decide +kernel
theorem dX3_fork_23 : decode cX3_fork 23 = .ok (.aload_n 0, 1) := by decide +kernel
theorem dX3_fork_24 : decode cX3_fork 24 = .ok (.invokevirtual 44, 3) := by decide +kernel
theorem dX3_fork_27 : decode cX3_fork 27 = .ok (.aload_n 0, 1) := by decide +kernel
theorem dX3_fork_28 : decode cX3_fork 28 = .ok (.iload_n 1, 1) := by decide +kernel
theorem dX3_fork_29 : decode cX3_fork 29 = .ok (.invokevirtual 37, 3) := by decide +kernel
theorem dX3_fork_32 : decode cX3_fork 32 = .ok (.if_icmp .ge 6, 3) := by decide +kernel
theorem dX3_fork_35 : decode cX3_fork 35 = .ok (.bipush (-8), 2) := by decide +kernel
theorem dX3_fork_37 : decode cX3_fork 37 = .ok (.ireturn, 1) := by decide +kernel
theorem dX3_fork_38 : decode cX3_fork 38 = .ok (.aload_n 0, 1) := by decide +kernel
theorem dX3_fork_39 : decode cX3_fork 39 = .ok (.getfield 7, 3) := by decide +kernel
theorem dX3_fork_42 : decode cX3_fork 42 = .ok (.iload_n 2, 1) := by decide +kernel
theorem dX3_fork_43 : decode cX3_fork 43 = .ok (.iconst 1, 1) := by decide +kernel
theorem dX3_fork_44 : decode cX3_fork 44 = .ok (.bastore, 1) := by decide +kernel
theorem dX3_fork_45 : decode cX3_fork 45 = .ok (.iconst 0, 1) := by decide +kernel
theorem dX3_fork_46 : decode cX3_fork 46 = .ok (.istore_n 3, 1) := by decide +kernel
theorem dX3_fork_47 : decode cX3_fork 47 = .ok (.iload_n 3, 1) := by decide +kernel
theorem dX3_fork_48 : decode cX3_fork 48 = .ok (.bipush 64, 2) := by decide +kernel
theorem dX3_fork_50 : decode cX3_fork 50 = .ok (.if_icmp .ge 123, 3) := by decide +kernel
theorem dX3_fork_53 : decode cX3_fork 53 = .ok (.bipush 64, 2) := by decide +kernel
theorem dX3_fork_55 : decode cX3_fork 55 = .ok (.iload_n 1, 1) := by decide +kernel
theorem dX3_fork_56 : decode cX3_fork 56 = .ok (.imul, 1) := by decide +kernel
theorem dX3_fork_57 : decode cX3_fork 57 = .ok (.iload_n 3, 1) := by decide +kernel
theorem dX3_fork_58 : decode cX3_fork 58 = .ok (.iadd, 1) := by decide +kernel
theorem dX3_fork_59 : decode cX3_fork 59 = .ok (.istore 4, 2) := by decide +kernel
theorem dX3_fork_61 : decode cX3_fork 61 = .ok (.bipush 64, 2) := by decide +kernel
theorem dX3_fork_63 : decode cX3_fork 63 = .ok (.iload_n 2, 1) := by decide +kernel
theorem dX3_fork_64 : decode cX3_fork 64 = .ok (.imul, 1) := by decide +kernel
theorem dX3_fork_65 : decode cX3_fork 65 = .ok (.iload_n 3, 1) := by decide +kernel
theorem dX3_fork_66 : decode cX3_fork 66 = .ok (.iadd, 1) := by decide +kernel
theorem dX3_fork_67 : decode cX3_fork 67 = .ok (.istore 5, 2) := by decide +kernel
theorem dX3_fork_69 : decode cX3_fork 69 = .ok (.aload_n 0, 1) := by decide +kernel
theorem dX3_fork_70 : decode cX3_fork 70 = .ok (.getfield 23, 3) := by decide +kernel
theorem dX3_fork_73 : decode cX3_fork 73 = .ok (.iload 4, 2) := by decide +kernel
theorem dX3_fork_75 : decode cX3_fork 75 = .ok (.aload_n 0, 1) := by decide +kernel
theorem dX3_fork_76 : decode cX3_fork 76 = .ok (.getfield 23, 3) := by decide +kernel
theorem dX3_fork_79 : decode cX3_fork 79 = .ok (.iload 4, 2) := by decide +kernel
theorem dX3_fork_81 : decode cX3_fork 81 = .ok (.baload, 1) := by decide +kernel
theorem dX3_fork_82 : decode cX3_fork 82 = .ok (.ifCond .ne 23, 3) := by decide +kernel
theorem dX3_fork_85 : decode cX3_fork 85 = .ok (.aload_n 0, 1) := by decide +kernel
theorem dX3_fork_86 : decode cX3_fork 86 = .ok (.getfield 13, 3) := by decide +kernel
theorem dX3_fork_89 : decode cX3_fork 89 = .ok (.iload 4, 2) := by decide +kernel
theorem dX3_fork_91 : decode cX3_fork 91 = .ok (.iaload, 1) := by decide +kernel
theorem dX3_fork_92 : decode cX3_fork 92 = .ok (.ifCond .le 17, 3) := by decide +kernel
theorem dX3_fork_95 : decode cX3_fork 95 = .ok (.aload_n 0, 1) := by decide +kernel
theorem dX3_fork_96 : decode cX3_fork 96 = .ok (.getfield 17, 3) := by decide +kernel
theorem dX3_fork_99 : decode cX3_fork 99 = .ok (.iload 4, 2) := by decide +kernel
theorem dX3_fork_101 : decode cX3_fork 101 = .ok (.baload, 1) := by decide +kernel
theorem dX3_fork_102 : decode cX3_fork 102 = .ok (.ifCond .ne 7, 3) := by decide +kernel
theorem dX3_fork_105 : decode cX3_fork 105 = .ok (.iconst 1, 1) := by decide +kernel
theorem dX3_fork_106 : decode cX3_fork 106 = .ok (.goto 4, 3) := by decide +kernel
theorem dX3_fork_109 : decode cX3_fork 109 = .ok (.iconst 0, 1) := by decide +kernel
theorem dX3_fork_110 : decode cX3_fork 110 = .ok (.bastore, 1) := by decide +kernel
theorem dX3_fork_111 : decode cX3_fork 111 = .ok (.aload_n 0, 1) := by decide +kernel
theorem dX3_fork_112 : decode cX3_fork 112 = .ok (.getfield 13, 3) := by decide +kernel
theorem dX3_fork_115 : decode cX3_fork 115 = .ok (.iload 5, 2) := by decide +kernel
theorem dX3_fork_117 : decode cX3_fork 117 = .ok (.aload_n 0, 1) := by decide +kernel
theorem dX3_fork_118 : decode cX3_fork 118 = .ok (.getfield 13, 3) := by decide +kernel
theorem dX3_fork_121 : decode cX3_fork 121 = .ok (.iload 4, 2) := by decide +kernel
theorem dX3_fork_123 : decode cX3_fork 123 = .ok (.iaload, 1) := by decide +kernel
theorem dX3_fork_124 : decode cX3_fork 124 = .ok (.iastore, 1) := by decide +kernel
theorem dX3_fork_125 : decode cX3_fork 125 = .ok (.aload_n 0, 1) := by decide +kernel
theorem dX3_fork_126 : decode cX3_fork 126 = .ok (.getfield 17, 3) := by decide +kernel
theorem dX3_fork_129 : decode cX3_fork 129 = .ok (.iload 5, 2) := by decide +kernel
theorem dX3_fork_131 : decode cX3_fork 131 = .ok (.aload_n 0, 1) := by decide +kernel
theorem dX3_fork_132 : decode cX3_fork 132 = .ok (.getfield 17, 3) := by decide +kernel
theorem dX3_fork_135 : decode cX3_fork 135 = .ok (.iload 4, 2) := by decide +kernel
theorem dX3_fork_137 : decode cX3_fork 137 = .ok (.baload, 1) := by decide +kernel
theorem dX3_fork_138 : decode cX3_fork 138 = .ok (.bastore, 1) := by decide +kernel
theorem dX3_fork_139 : decode cX3_fork 139 = .ok (.aload_n 0, 1) := by decide +kernel
theorem dX3_fork_140 : decode cX3_fork 140 = .ok (.getfield 20, 3) := by decide +kernel
theorem dX3_fork_143 : decode cX3_fork 143 = .ok (.iload 5, 2) := by decide +kernel
theorem dX3_fork_145 : decode cX3_fork 145 = .ok (.aload_n 0, 1) := by decide +kernel
theorem dX3_fork_146 : decode cX3_fork 146 = .ok (.getfield 20, 3) := by decide +kernel
theorem dX3_fork_149 : decode cX3_fork 149 = .ok (.iload 4, 2) := by decide +kernel
theorem dX3_fork_151 : decode cX3_fork 151 = .ok (.baload, 1) := by decide +kernel
theorem dX3_fork_152 : decode cX3_fork 152 = .ok (.bastore, 1) := by decide +kernel
theorem dX3_fork_153 : decode cX3_fork 153 = .ok (.aload_n 0, 1) := by decide +kernel
theorem dX3_fork_154 : decode cX3_fork 154 = .ok (.getfield 23, 3) := by decide +kernel
theorem dX3_fork_157 : decode cX3_fork 157 = .ok (.iload 5, 2) := by decide +kernel
theorem dX3_fork_159 : decode cX3_fork 159 = .ok (.aload_n 0, 1) := by decide +kernel
theorem dX3_fork_160 : decode cX3_fork 160 = .ok (.getfield 23, 3) := by decide +kernel
theorem dX3_fork_163 : decode cX3_fork 163 = .ok (.iload 4, 2) := by decide +kernel
theorem dX3_fork_165 : decode cX3_fork 165 = .ok (.baload, 1) := by decide +kernel
theorem dX3_fork_166 : decode cX3_fork 166 = .ok (.bastore, 1) := by decide +kernel
theorem dX3_fork_167 : decode cX3_fork 167 = .ok (.iinc 3 1, 3) := by decide +kernel
theorem dX3_fork_170 : decode cX3_fork 170 = .ok (.goto (-123), 3) := by decide +kernel
theorem dX3_fork_173 : decode cX3_fork 173 = .ok (.iload_n 2, 1) := by decide +kernel
theorem dX3_fork_174 : decode cX3_fork 174 = .ok (.ireturn, 1) := by decide +kernel
theorem dX3_clear_0 : decode cX3_clear 0 = .ok (.aload_n 0, 1) := by decide +kernel
theorem dX3_clear_1 : decode cX3_clear 1 = .ok (.getfield 13, 3) := by decide +kernel
theorem dX3_clear_4 : decode cX3_clear 4 = .ok (.iload_n 1, 1) := by decide +kernel
theorem dX3_clear_5 : decode cX3_clear 5 = .ok (.iconst 0, 1) := by decide +kernel
theorem dX3_clear_6 : decode cX3_clear 6 = .ok (.iastore, 1) := by decide +kernel
theorem dX3_clear_7 : decode cX3_clear 7 = .ok (.aload_n 0, 1) := by decide +kernel
theorem dX3_clear_8 : decode cX3_clear 8 = .ok (.getfield 17, 3) := by decide +kernel
theorem dX3_clear_11 : decode cX3_clear 11 = .ok (.iload_n 1, 1) := by decide +kernel
theorem dX3_clear_12 : decode cX3_clear 12 = .ok (.iconst 0, 1) := by decide +kernel
theorem dX3_clear_13 : decode cX3_clear 13 = .ok (.bastore, 1) := by decide +kernel
theorem dX3_clear_14 : decode cX3_clear 14 = .ok (.aload_n 0, 1) := by decide +kernel
theorem dX3_clear_15 : decode cX3_clear 15 = .ok (.getfield 20, 3) := by decide +kernel
theorem dX3_clear_18 : decode cX3_clear 18 = .ok (.iload_n 1, 1) := by decide +kernel
theorem dX3_clear_19 : decode cX3_clear 19 = .ok (.iconst 0, 1) := by decide +kernel
theorem dX3_clear_20 : decode cX3_clear 20 = .ok (.bastore, 1) := by decide +kernel
theorem dX3_clear_21 : decode cX3_clear 21 = .ok (.aload_n 0, 1) := by decide +kernel
theorem dX3_clear_22 : decode cX3_clear 22 = .ok (.getfield 23, 3) := by decide +kernel
theorem dX3_clear_25 : decode cX3_clear 25 = .ok (.iload_n 1, 1) := by decide +kernel
theorem dX3_clear_26 : decode cX3_clear 26 = .ok (.iconst 0, 1) := by decide +kernel
theorem dX3_clear_27 : decode cX3_clear 27 = .ok (.bastore, 1) := by decide +kernel
theorem dX3_clear_28 : decode cX3_clear 28 = .ok (.return_, 1) := by decide +kernel
theorem dX3_exit_0 : decode cX3_exit 0 = .ok (.aload_n 0, 1) := by decide +kernel
theorem dX3_exit_1 : decode cX3_exit 1 = .ok (.iload_n 1, 1) := by decide +kernel
theorem dX3_exit_2 : decode cX3_exit 2 = .ok (.invokevirtual 47, 3) := by decide +kernel
theorem dX3_exit_5 : decode cX3_exit 5 = .ok (.ifCond .eq 5, 3) := by decide +kernel
theorem dX3_exit_8 : decode cX3_exit 8 = .ok (.iconst (-1), 1) := by decide +kernel
theorem dX3_exit_9 : decode cX3_exit 9 = .ok (.ireturn, 1) := by decide +kernel
theorem dX3_exit_10 : decode cX3_exit 10 = .ok (.aload_n 0, 1) := by decide +kernel
theorem dX3_exit_11 : decode cX3_exit 11 = .ok (.invokevirtual 44, 3) := by decide +kernel
theorem dX3_exit_14 : decode cX3_exit 14 = .ok (.istore_n 2, 1) := by decide +kernel
theorem dX3_exit_15 : decode cX3_exit 15 = .ok (.iconst 0, 1) := by decide +kernel
theorem dX3_exit_16 : decode cX3_exit 16 = .ok (.istore_n 3, 1) := by decide +kernel
theorem dX3_exit_17 : decode cX3_exit 17 = .ok (.iload_n 3, 1) := by decide +kernel
theorem dX3_exit_18 : decode cX3_exit 18 = .ok (.bipush 64, 2) := by decide +kernel
theorem dX3_exit_20 : decode cX3_exit 20 = .ok (.if_icmp .ge 19, 3) := by decide +kernel
theorem dX3_exit_23 : decode cX3_exit 23 = .ok (.aload_n 0, 1) := by decide +kernel
theorem dX3_exit_24 : decode cX3_exit 24 = .ok (.bipush 64, 2) := by decide +kernel
theorem dX3_exit_26 : decode cX3_exit 26 = .ok (.iload_n 1, 1) := by decide +kernel
theorem dX3_exit_27 : decode cX3_exit 27 = .ok (.imul, 1) := by decide +kernel
theorem dX3_exit_28 : decode cX3_exit 28 = .ok (.iload_n 3, 1) := by decide +kernel
theorem dX3_exit_29 : decode cX3_exit 29 = .ok (.iadd, 1) := by decide +kernel
theorem dX3_exit_30 : decode cX3_exit 30 = .ok (.invokevirtual 51, 3) := by decide +kernel
theorem dX3_exit_33 : decode cX3_exit 33 = .ok (.iinc 3 1, 3) := by decide +kernel
theorem dX3_exit_36 : decode cX3_exit 36 = .ok (.goto (-19), 3) := by decide +kernel
theorem dX3_exit_39 : decode cX3_exit 39 = .ok (.aload_n 0, 1) := by decide +kernel
theorem dX3_exit_40 : decode cX3_exit 40 = .ok (.getfield 7, 3) := by decide +kernel
theorem dX3_exit_43 : decode cX3_exit 43 = .ok (.iload_n 1, 1) := by decide +kernel
theorem dX3_exit_44 : decode cX3_exit 44 = .ok (.iconst 0, 1) := by decide +kernel
theorem dX3_exit_45 : decode cX3_exit 45 = .ok (.bastore, 1) := by decide +kernel
theorem dX3_exit_46 : decode cX3_exit 46 = .ok (.aload_n 0, 1) := by decide +kernel
theorem dX3_exit_47 : decode cX3_exit 47 = .ok (.invokevirtual 44, 3) := by decide +kernel
theorem dX3_exit_50 : decode cX3_exit 50 = .ok (.iload_n 2, 1) := by decide +kernel
theorem dX3_exit_51 : decode cX3_exit 51 = .ok (.isub, 1) := by decide +kernel
theorem dX3_exit_52 : decode cX3_exit 52 = .ok (.ireturn, 1) := by decide +kernel
theorem dX3_map_0 : decode cX3_map 0 = .ok (.aload_n 0, 1) := by decide +kernel
theorem dX3_map_1 : decode cX3_map 1 = .ok (.iload_n 1, 1) := by decide +kernel
theorem dX3_map_2 : decode cX3_map 2 = .ok (.invokevirtual 47, 3) := by decide +kernel
theorem dX3_map_5 : decode cX3_map 5 = .ok (.ifCond .eq 5, 3) := by decide +kernel
theorem dX3_map_8 : decode cX3_map 8 = .ok (.iconst (-1), 1) := by decide +kernel
theorem dX3_map_9 : decode cX3_map 9 = .ok (.ireturn, 1) := by decide +kernel
theorem dX3_map_10 : decode cX3_map 10 = .ok (.iload_n 2, 1) := by decide +kernel
theorem dX3_map_11 : decode cX3_map 11 = .ok (.invokestatic 55, 3) := by decide +kernel
theorem dX3_map_14 : decode cX3_map 14 = .ok (.ifCond .ne 6, 3) := by decide +kernel
theorem dX3_map_17 : decode cX3_map 17 = .ok (.bipush (-2), 2) := by decide +kernel
theorem dX3_map_19 : decode cX3_map 19 = .ok (.ireturn, 1) := by decide +kernel
theorem dX3_map_20 : decode cX3_map 20 = .ok (.bipush 64, 2) := by decide +kernel
theorem dX3_map_22 : decode cX3_map 22 = .ok (.iload_n 1, 1) := by decide +kernel
theorem dX3_map_23 : decode cX3_map 23 = .ok (.imul, 1) := by decide +kernel
theorem dX3_map_24 : decode cX3_map 24 = .ok (.iload_n 2, 1) := by decide +kernel
theorem dX3_map_25 : decode cX3_map 25 = .ok (.iadd, 1) := by decide +kernel
theorem dX3_map_26 : decode cX3_map 26 = .ok (.istore 4, 2) := by decide +kernel
theorem dX3_map_28 : decode cX3_map 28 = .ok (.aload_n 0, 1) := by decide +kernel
theorem dX3_map_29 : decode cX3_map 29 = .ok (.getfield 13, 3) := by decide +kernel
theorem dX3_map_32 : decode cX3_map 32 = .ok (.iload 4, 2) := by decide +kernel
theorem dX3_map_34 : decode cX3_map 34 = .ok (.iaload, 1) := by decide +kernel
theorem dX3_map_35 : decode cX3_map 35 = .ok (.ifCond .le 6, 3) := by decide +kernel
theorem dX3_map_38 : decode cX3_map 38 = .ok (.bipush (-4), 2) := by decide +kernel
theorem dX3_map_40 : decode cX3_map 40 = .ok (.ireturn, 1) := by decide +kernel
theorem dX3_map_41 : decode cX3_map 41 = .ok (.iconst 1, 1) := by decide +kernel
theorem dX3_map_42 : decode cX3_map 42 = .ok (.aload_n 0, 1) := by decide +kernel
theorem dX3_map_43 : decode cX3_map 43 = .ok (.iload_n 1, 1) := by decide +kernel
theorem dX3_map_44 : decode cX3_map 44 = .ok (.iload_n 2, 1) := by decide +kernel
theorem dX3_map_45 : decode cX3_map 45 = .ok (.invokevirtual 58, 3) := by decide +kernel
theorem dX3_map_48 : decode cX3_map 48 = .ok (.iadd, 1) := by decide +kernel
theorem dX3_map_49 : decode cX3_map 49 = .ok (.istore 5, 2) := by decide +kernel
theorem dX3_map_51 : decode cX3_map 51 = .ok (.aload_n 0, 1) := by decide +kernel
theorem dX3_map_52 : decode cX3_map 52 = .ok (.invokevirtual 44, 3) := by decide +kernel
theorem dX3_map_55 : decode cX3_map 55 = .ok (.iload 5, 2) := by decide +kernel
theorem dX3_map_57 : decode cX3_map 57 = .ok (.if_icmp .ge 6, 3) := by decide +kernel
theorem dX3_map_60 : decode cX3_map 60 = .ok (.bipush (-8), 2) := by decide +kernel
theorem dX3_map_62 : decode cX3_map 62 = .ok (.ireturn, 1) := by decide +kernel
theorem dX3_map_63 : decode cX3_map 63 = .ok (.aload_n 0, 1) := by decide +kernel
theorem dX3_map_64 : decode cX3_map 64 = .ok (.invokevirtual 62, 3) := by decide +kernel
theorem dX3_map_67 : decode cX3_map 67 = .ok (.istore 6, 2) := by decide +kernel
theorem dX3_map_69 : decode cX3_map 69 = .ok (.iconst 0, 1) := by decide +kernel
theorem dX3_map_70 : decode cX3_map 70 = .ok (.istore 7, 2) := by decide +kernel
theorem dX3_map_72 : decode cX3_map 72 = .ok (.iload 7, 2) := by decide +kernel
theorem dX3_map_74 : decode cX3_map 74 = .ok (.iconst 4, 1) := by decide +kernel
theorem dX3_map_75 : decode cX3_map 75 = .ok (.if_icmp .ge 22, 3) := by decide +kernel
theorem dX3_map_78 : decode cX3_map 78 = .ok (.aload_n 0, 1) := by decide +kernel
theorem dX3_map_79 : decode cX3_map 79 = .ok (.getfield 26, 3) := by decide +kernel
theorem dX3_map_82 : decode cX3_map 82 = .ok (.iconst 4, 1) := by decide +kernel
theorem dX3_map_83 : decode cX3_map 83 = .ok (.iload 6, 2) := by decide +kernel
theorem dX3_map_85 : decode cX3_map 85 = .ok (.imul, 1) := by decide +kernel
theorem dX3_map_86 : decode cX3_map 86 = .ok (.iload 7, 2) := by decide +kernel
theorem dX3_map_88 : decode cX3_map 88 = .ok (.iadd, 1) := by decide +kernel
theorem dX3_map_89 : decode cX3_map 89 = .ok (.iconst 0, 1) := by decide +kernel
theorem dX3_map_90 : decode cX3_map 90 = .ok (.iastore, 1) := by decide +kernel
theorem dX3_map_91 : decode cX3_map 91 = .ok (.iinc 7 1, 3) := by decide +kernel
theorem dX3_map_94 : decode cX3_map 94 = .ok (.goto (-22), 3) := by decide +kernel
theorem dX3_map_97 : decode cX3_map 97 = .ok (.aload_n 0, 1) := by decide +kernel
theorem dX3_map_98 : decode cX3_map 98 = .ok (.getfield 13, 3) := by decide +kernel
theorem dX3_map_101 : decode cX3_map 101 = .ok (.iload 4, 2) := by decide +kernel
theorem dX3_map_103 : decode cX3_map 103 = .ok (.iload 6, 2) := by decide +kernel
theorem dX3_map_105 : decode cX3_map 105 = .ok (.iconst 1, 1) := by decide +kernel
theorem dX3_map_106 : decode cX3_map 106 = .ok (.iadd, 1) := by decide +kernel
theorem dX3_map_107 : decode cX3_map 107 = .ok (.iastore, 1) := by decide +kernel
theorem dX3_map_108 : decode cX3_map 108 = .ok (.aload_n 0, 1) := by decide +kernel
theorem dX3_map_109 : decode cX3_map 109 = .ok (.getfield 17, 3) := by decide +kernel
theorem dX3_map_112 : decode cX3_map 112 = .ok (.iload 4, 2) := by decide +kernel
theorem dX3_map_114 : decode cX3_map 114 = .ok (.iload_n 3, 1) := by decide +kernel
theorem dX3_map_115 : decode cX3_map 115 = .ok (.bastore, 1) := by decide +kernel
theorem dX3_map_116 : decode cX3_map 116 = .ok (.aload_n 0, 1) := by decide +kernel
theorem dX3_map_117 : decode cX3_map 117 = .ok (.getfield 20, 3) := by decide +kernel
theorem dX3_map_120 : decode cX3_map 120 = .ok (.iload 4, 2) := by decide +kernel
theorem dX3_map_122 : decode cX3_map 122 = .ok (.iconst 1, 1) := by decide +kernel
theorem dX3_map_123 : decode cX3_map 123 = .ok (.bastore, 1) := by decide +kernel
theorem dX3_map_124 : decode cX3_map 124 = .ok (.aload_n 0, 1) := by decide +kernel
theorem dX3_map_125 : decode cX3_map 125 = .ok (.getfield 23, 3) := by decide +kernel
theorem dX3_map_128 : decode cX3_map 128 = .ok (.iload 4, 2) := by decide +kernel
theorem dX3_map_130 : decode cX3_map 130 = .ok (.iconst 0, 1) := by decide +kernel
theorem dX3_map_131 : decode cX3_map 131 = .ok (.bastore, 1) := by decide +kernel
theorem dX3_map_132 : decode cX3_map 132 = .ok (.iload 5, 2) := by decide +kernel
theorem dX3_map_134 : decode cX3_map 134 = .ok (.ireturn, 1) := by decide +kernel
theorem dX3_attach_0 : decode cX3_attach 0 = .ok (.aload_n 0, 1) := by decide +kernel
theorem dX3_attach_1 : decode cX3_attach 1 = .ok (.iload_n 1, 1) := by decide +kernel
theorem dX3_attach_2 : decode cX3_attach 2 = .ok (.invokevirtual 47, 3) := by decide +kernel
theorem dX3_attach_5 : decode cX3_attach 5 = .ok (.ifCond .ne 11, 3) := by decide +kernel
theorem dX3_attach_8 : decode cX3_attach 8 = .ok (.aload_n 0, 1) := by decide +kernel
theorem dX3_attach_9 : decode cX3_attach 9 = .ok (.iload_n 3, 1) := by decide +kernel
theorem dX3_attach_10 : decode cX3_attach 10 = .ok (.invokevirtual 47, 3) := by decide +kernel
theorem dX3_attach_13 : decode cX3_attach 13 = .ok (.ifCond .eq 5, 3) := by decide +kernel
theorem dX3_attach_16 : decode cX3_attach 16 = .ok (.iconst (-1), 1) := by decide +kernel
theorem dX3_attach_17 : decode cX3_attach 17 = .ok (.ireturn, 1) := by decide +kernel
theorem dX3_attach_18 : decode cX3_attach 18 = .ok (.iload_n 2, 1) := by decide +kernel
theorem dX3_attach_19 : decode cX3_attach 19 = .ok (.invokestatic 55, 3) := by decide +kernel
theorem dX3_attach_22 : decode cX3_attach 22 = .ok (.ifCond .eq 11, 3) := by decide +kernel
theorem dX3_attach_25 : decode cX3_attach 25 = .ok (.iload 4, 2) := by decide +kernel
theorem dX3_attach_27 : decode cX3_attach 27 = .ok (.invokestatic 55, 3) := by decide +kernel
theorem dX3_attach_30 : decode cX3_attach 30 = .ok (.ifCond .ne 6, 3) := by decide +kernel
theorem dX3_attach_33 : decode cX3_attach 33 = .ok (.bipush (-2), 2) := by decide +kernel
theorem dX3_attach_35 : decode cX3_attach 35 = .ok (.ireturn, 1) := by decide +kernel
theorem dX3_attach_36 : decode cX3_attach 36 = .ok (.bipush 64, 2) := by decide +kernel
theorem dX3_attach_38 : decode cX3_attach 38 = .ok (.iload_n 1, 1) := by decide +kernel
theorem dX3_attach_39 : decode cX3_attach 39 = .ok (.imul, 1) := by decide +kernel
theorem dX3_attach_40 : decode cX3_attach 40 = .ok (.iload_n 2, 1) := by decide +kernel
theorem dX3_attach_41 : decode cX3_attach 41 = .ok (.iadd, 1) := by decide +kernel
theorem dX3_attach_42 : decode cX3_attach 42 = .ok (.istore 5, 2) := by decide +kernel
theorem dX3_attach_44 : decode cX3_attach 44 = .ok (.bipush 64, 2) := by decide +kernel
theorem dX3_attach_46 : decode cX3_attach 46 = .ok (.iload_n 3, 1) := by decide +kernel
theorem dX3_attach_47 : decode cX3_attach 47 = .ok (.imul, 1) := by decide +kernel
theorem dX3_attach_48 : decode cX3_attach 48 = .ok (.iload 4, 2) := by decide +kernel
theorem dX3_attach_50 : decode cX3_attach 50 = .ok (.iadd, 1) := by decide +kernel
theorem dX3_attach_51 : decode cX3_attach 51 = .ok (.istore 6, 2) := by decide +kernel
theorem dX3_attach_53 : decode cX3_attach 53 = .ok (.aload_n 0, 1) := by decide +kernel
theorem dX3_attach_54 : decode cX3_attach 54 = .ok (.getfield 13, 3) := by decide +kernel
theorem dX3_attach_57 : decode cX3_attach 57 = .ok (.iload 6, 2) := by decide +kernel
theorem dX3_attach_59 : decode cX3_attach 59 = .ok (.iaload, 1) := by decide +kernel
theorem dX3_attach_60 : decode cX3_attach 60 = .ok (.ifCond .ne 6, 3) := by decide +kernel
theorem dX3_attach_63 : decode cX3_attach 63 = .ok (.bipush (-3), 2) := by decide +kernel
theorem dX3_attach_65 : decode cX3_attach 65 = .ok (.ireturn, 1) := by decide +kernel
theorem dX3_attach_66 : decode cX3_attach 66 = .ok (.aload_n 0, 1) := by decide +kernel
theorem dX3_attach_67 : decode cX3_attach 67 = .ok (.getfield 13, 3) := by decide +kernel
theorem dX3_attach_70 : decode cX3_attach 70 = .ok (.iload 5, 2) := by decide +kernel
theorem dX3_attach_72 : decode cX3_attach 72 = .ok (.iaload, 1) := by decide +kernel
theorem dX3_attach_73 : decode cX3_attach 73 = .ok (.ifCond .le 6, 3) := by decide +kernel
theorem dX3_attach_76 : decode cX3_attach 76 = .ok (.bipush (-4), 2) := by decide +kernel
theorem dX3_attach_78 : decode cX3_attach 78 = .ok (.ireturn, 1) := by decide +kernel
theorem dX3_attach_79 : decode cX3_attach 79 = .ok (.aload_n 0, 1) := by decide +kernel
theorem dX3_attach_80 : decode cX3_attach 80 = .ok (.getfield 17, 3) := by decide +kernel
theorem dX3_attach_83 : decode cX3_attach 83 = .ok (.iload 6, 2) := by decide +kernel
theorem dX3_attach_85 : decode cX3_attach 85 = .ok (.baload, 1) := by decide +kernel
theorem dX3_attach_86 : decode cX3_attach 86 = .ok (.ifCond .ne 6, 3) := by decide +kernel
theorem dX3_attach_89 : decode cX3_attach 89 = .ok (.bipush (-6), 2) := by decide +kernel
theorem dX3_attach_91 : decode cX3_attach 91 = .ok (.ireturn, 1) := by decide +kernel
theorem dX3_attach_92 : decode cX3_attach 92 = .ok (.aload_n 0, 1) := by decide +kernel
theorem dX3_attach_93 : decode cX3_attach 93 = .ok (.iload_n 1, 1) := by decide +kernel
theorem dX3_attach_94 : decode cX3_attach 94 = .ok (.iload_n 2, 1) := by decide +kernel
theorem dX3_attach_95 : decode cX3_attach 95 = .ok (.invokevirtual 58, 3) := by decide +kernel
theorem dX3_attach_98 : decode cX3_attach 98 = .ok (.istore 7, 2) := by decide +kernel
theorem dX3_attach_100 : decode cX3_attach 100 = .ok (.aload_n 0, 1) := by decide +kernel
theorem dX3_attach_101 : decode cX3_attach 101 = .ok (.invokevirtual 44, 3) := by decide +kernel
theorem dX3_attach_104 : decode cX3_attach 104 = .ok (.iload 7, 2) := by decide +kernel
theorem dX3_attach_106 : decode cX3_attach 106 = .ok (.if_icmp .ge 6, 3) := by decide +kernel
theorem dX3_attach_109 : decode cX3_attach 109 = .ok (.bipush (-8), 2) := by decide +kernel
theorem dX3_attach_111 : decode cX3_attach 111 = .ok (.ireturn, 1) := by decide +kernel
theorem dX3_attach_112 : decode cX3_attach 112 = .ok (.aload_n 0, 1) := by decide +kernel
theorem dX3_attach_113 : decode cX3_attach 113 = .ok (.getfield 13, 3) := by decide +kernel
theorem dX3_attach_116 : decode cX3_attach 116 = .ok (.iload 5, 2) := by decide +kernel
theorem dX3_attach_118 : decode cX3_attach 118 = .ok (.aload_n 0, 1) := by decide +kernel
theorem dX3_attach_119 : decode cX3_attach 119 = .ok (.getfield 13, 3) := by decide +kernel
theorem dX3_attach_122 : decode cX3_attach 122 = .ok (.iload 6, 2) := by decide +kernel
theorem dX3_attach_124 : decode cX3_attach 124 = .ok (.iaload, 1) := by decide +kernel
theorem dX3_attach_125 : decode cX3_attach 125 = .ok (.iastore, 1) := by decide +kernel
theorem dX3_attach_126 : decode cX3_attach 126 = .ok (.aload_n 0, 1) := by decide +kernel
theorem dX3_attach_127 : decode cX3_attach 127 = .ok (.getfield 17, 3) := by decide +kernel
theorem dX3_attach_130 : decode cX3_attach 130 = .ok (.iload 5, 2) := by decide +kernel
theorem dX3_attach_132 : decode cX3_attach 132 = .ok (.iconst 1, 1) := by decide +kernel
theorem dX3_attach_133 : decode cX3_attach 133 = .ok (.bastore, 1) := by decide +kernel
theorem dX3_attach_134 : decode cX3_attach 134 = .ok (.aload_n 0, 1) := by decide +kernel
theorem dX3_attach_135 : decode cX3_attach 135 = .ok (.getfield 20, 3) := by decide +kernel
theorem dX3_attach_138 : decode cX3_attach 138 = .ok (.iload 5, 2) := by decide +kernel
theorem dX3_attach_140 : decode cX3_attach 140 = .ok (.aload_n 0, 1) := by decide +kernel
theorem dX3_attach_141 : decode cX3_attach 141 = .ok (.getfield 20, 3) := by decide +kernel
theorem dX3_attach_144 : decode cX3_attach 144 = .ok (.iload 6, 2) := by decide +kernel
theorem dX3_attach_146 : decode cX3_attach 146 = .ok (.baload, 1) := by decide +kernel
theorem dX3_attach_147 : decode cX3_attach 147 = .ok (.bastore, 1) := by decide +kernel
theorem dX3_attach_148 : decode cX3_attach 148 = .ok (.aload_n 0, 1) := by decide +kernel
theorem dX3_attach_149 : decode cX3_attach 149 = .ok (.getfield 23, 3) := by decide +kernel
theorem dX3_attach_152 : decode cX3_attach 152 = .ok (.iload 5, 2) := by decide +kernel
theorem dX3_attach_154 : decode cX3_attach 154 = .ok (.iconst 0, 1) := by decide +kernel
theorem dX3_attach_155 : decode cX3_attach 155 = .ok (.bastore, 1) := by decide +kernel
theorem dX3_attach_156 : decode cX3_attach 156 = .ok (.iload 7, 2) := by decide +kernel
theorem dX3_attach_158 : decode cX3_attach 158 = .ok (.ireturn, 1) := by decide +kernel
theorem dX3_bar_0 : decode cX3_bar 0 = .ok (.aload_n 0, 1) := by decide +kernel
theorem dX3_bar_1 : decode cX3_bar 1 = .ok (.iload_n 1, 1) := by decide +kernel
theorem dX3_bar_2 : decode cX3_bar 2 = .ok (.invokevirtual 47, 3) := by decide +kernel
theorem dX3_bar_5 : decode cX3_bar 5 = .ok (.ifCond .eq 7, 3) := by decide +kernel
theorem dX3_bar_8 : decode cX3_bar 8 = .ok (.iconst (-1), 1) := by decide +kernel
theorem dX3_bar_9 : decode cX3_bar 9 = .ok (.goto 35, 3) := by decide +kernel
theorem dX3_bar_12 : decode cX3_bar 12 = .ok (.iload_n 2, 1) := by decide +kernel
theorem dX3_bar_13 : decode cX3_bar 13 = .ok (.invokestatic 55, 3) := by decide +kernel
theorem dX3_bar_16 : decode cX3_bar 16 = .ok (.ifCond .ne 8, 3) := by decide +kernel
theorem dX3_bar_19 : decode cX3_bar 19 = .ok (.bipush (-2), 2) := by decide +kernel
theorem dX3_bar_21 : decode cX3_bar 21 = .ok (.goto 23, 3) := by decide +kernel
theorem dX3_bar_24 : decode cX3_bar 24 = .ok (.aload_n 0, 1) := by decide +kernel
theorem dX3_bar_25 : decode cX3_bar 25 = .ok (.getfield 13, 3) := by decide +kernel
theorem dX3_bar_28 : decode cX3_bar 28 = .ok (.bipush 64, 2) := by decide +kernel
theorem dX3_bar_30 : decode cX3_bar 30 = .ok (.iload_n 1, 1) := by decide +kernel
theorem dX3_bar_31 : decode cX3_bar 31 = .ok (.imul, 1) := by decide +kernel
theorem dX3_bar_32 : decode cX3_bar 32 = .ok (.iload_n 2, 1) := by decide +kernel
theorem dX3_bar_33 : decode cX3_bar 33 = .ok (.iadd, 1) := by decide +kernel
theorem dX3_bar_34 : decode cX3_bar 34 = .ok (.iaload, 1) := by decide +kernel
theorem dX3_bar_35 : decode cX3_bar 35 = .ok (.ifCond .ne 8, 3) := by decide +kernel
theorem dX3_bar_38 : decode cX3_bar 38 = .ok (.bipush (-3), 2) := by decide +kernel
theorem dX3_bar_40 : decode cX3_bar 40 = .ok (.goto 4, 3) := by decide +kernel
theorem dX3_bar_43 : decode cX3_bar 43 = .ok (.iconst 0, 1) := by decide +kernel
theorem dX3_bar_44 : decode cX3_bar 44 = .ok (.ireturn, 1) := by decide +kernel
theorem dX3_unmap_0 : decode cX3_unmap 0 = .ok (.aload_n 0, 1) := by decide +kernel
theorem dX3_unmap_1 : decode cX3_unmap 1 = .ok (.iload_n 1, 1) := by decide +kernel
theorem dX3_unmap_2 : decode cX3_unmap 2 = .ok (.iload_n 2, 1) := by decide +kernel
theorem dX3_unmap_3 : decode cX3_unmap 3 = .ok (.invokevirtual 65, 3) := by decide +kernel
theorem dX3_unmap_6 : decode cX3_unmap 6 = .ok (.istore_n 3, 1) := by decide +kernel
theorem dX3_unmap_7 : decode cX3_unmap 7 = .ok (.iload_n 3, 1) := by decide +kernel
theorem dX3_unmap_8 : decode cX3_unmap 8 = .ok (.ifCond .ge 5, 3) := by decide +kernel
theorem dX3_unmap_11 : decode cX3_unmap 11 = .ok (.iload_n 3, 1) := by decide +kernel
theorem dX3_unmap_12 : decode cX3_unmap 12 = .ok (.ireturn, 1) := by decide +kernel
theorem dX3_unmap_13 : decode cX3_unmap 13 = .ok (.aload_n 0, 1) := by decide +kernel
theorem dX3_unmap_14 : decode cX3_unmap 14 = .ok (.invokevirtual 44, 3) := by decide +kernel
theorem dX3_unmap_17 : decode cX3_unmap 17 = .ok (.istore 4, 2) := by decide +kernel
theorem dX3_unmap_19 : decode cX3_unmap 19 = .ok (.aload_n 0, 1) := by decide +kernel
theorem dX3_unmap_20 : decode cX3_unmap 20 = .ok (.bipush 64, 2) := by decide +kernel
theorem dX3_unmap_22 : decode cX3_unmap 22 = .ok (.iload_n 1, 1) := by decide +kernel
theorem dX3_unmap_23 : decode cX3_unmap 23 = .ok (.imul, 1) := by decide +kernel
theorem dX3_unmap_24 : decode cX3_unmap 24 = .ok (.iload_n 2, 1) := by decide +kernel
theorem dX3_unmap_25 : decode cX3_unmap 25 = .ok (.iadd, 1) := by decide +kernel
theorem dX3_unmap_26 : decode cX3_unmap 26 = .ok (.invokevirtual 51, 3) := by decide +kernel
theorem dX3_unmap_29 : decode cX3_unmap 29 = .ok (.aload_n 0, 1) := by decide +kernel
theorem dX3_unmap_30 : decode cX3_unmap 30 = .ok (.invokevirtual 44, 3) := by decide +kernel
theorem dX3_unmap_33 : decode cX3_unmap 33 = .ok (.iload 4, 2) := by decide +kernel
theorem dX3_unmap_35 : decode cX3_unmap 35 = .ok (.isub, 1) := by decide +kernel
theorem dX3_unmap_36 : decode cX3_unmap 36 = .ok (.ireturn, 1) := by decide +kernel
theorem dX3_protect_0 : decode cX3_protect 0 = .ok (.aload_n 0, 1) := by decide +kernel
theorem dX3_protect_1 : decode cX3_protect 1 = .ok (.iload_n 1, 1) := by decide +kernel
theorem dX3_protect_2 : decode cX3_protect 2 = .ok (.iload_n 2, 1) := by decide +kernel
theorem dX3_protect_3 : decode cX3_protect 3 = .ok (.invokevirtual 65, 3) := by decide +kernel
theorem dX3_protect_6 : decode cX3_protect 6 = .ok (.istore 4, 2) := by decide +kernel
theorem dX3_protect_8 : decode cX3_protect 8 = .ok (.iload 4, 2) := by decide +kernel
theorem dX3_protect_10 : decode cX3_protect 10 = .ok (.ifCond .ge 6, 3) := by decide +kernel
theorem dX3_protect_13 : decode cX3_protect 13 = .ok (.iload 4, 2) := by decide +kernel
theorem dX3_protect_15 : decode cX3_protect 15 = .ok (.ireturn, 1) := by decide +kernel
theorem dX3_protect_16 : decode cX3_protect 16 = .ok (.aload_n 0, 1) := by decide +kernel
theorem dX3_protect_17 : decode cX3_protect 17 = .ok (.getfield 20, 3) := by decide +kernel
theorem dX3_protect_20 : decode cX3_protect 20 = .ok (.bipush 64, 2) := by decide +kernel
theorem dX3_protect_22 : decode cX3_protect 22 = .ok (.iload_n 1, 1) := by decide +kernel
theorem dX3_protect_23 : decode cX3_protect 23 = .ok (.imul, 1) := by decide +kernel
theorem dX3_protect_24 : decode cX3_protect 24 = .ok (.iload_n 2, 1) := by decide +kernel
theorem dX3_protect_25 : decode cX3_protect 25 = .ok (.iadd, 1) := by decide +kernel
theorem dX3_protect_26 : decode cX3_protect 26 = .ok (.baload, 1) := by decide +kernel
theorem dX3_protect_27 : decode cX3_protect 27 = .ok (.istore 5, 2) := by decide +kernel
theorem dX3_protect_29 : decode cX3_protect 29 = .ok (.aload_n 0, 1) := by decide +kernel
theorem dX3_protect_30 : decode cX3_protect 30 = .ok (.getfield 20, 3) := by decide +kernel
theorem dX3_protect_33 : decode cX3_protect 33 = .ok (.bipush 64, 2) := by decide +kernel
theorem dX3_protect_35 : decode cX3_protect 35 = .ok (.iload_n 1, 1) := by decide +kernel
theorem dX3_protect_36 : decode cX3_protect 36 = .ok (.imul, 1) := by decide +kernel
theorem dX3_protect_37 : decode cX3_protect 37 = .ok (.iload_n 2, 1) := by decide +kernel
theorem dX3_protect_38 : decode cX3_protect 38 = .ok (.iadd, 1) := by decide +kernel
theorem dX3_protect_39 : decode cX3_protect 39 = .ok (.iload_n 3, 1) := by decide +kernel
theorem dX3_protect_40 : decode cX3_protect 40 = .ok (.bastore, 1) := by decide +kernel
theorem dX3_protect_41 : decode cX3_protect 41 = .ok (.iload 5, 2) := by decide +kernel
theorem dX3_protect_43 : decode cX3_protect 43 = .ok (.iload_n 3, 1) := by decide +kernel
theorem dX3_protect_44 : decode cX3_protect 44 = .ok (.if_icmp .ne 7, 3) := by decide +kernel
theorem dX3_protect_47 : decode cX3_protect 47 = .ok (.iconst 0, 1) := by decide +kernel
theorem dX3_protect_48 : decode cX3_protect 48 = .ok (.goto 4, 3) := by decide +kernel
theorem dX3_protect_51 : decode cX3_protect 51 = .ok (.iconst 1, 1) := by decide +kernel
theorem dX3_protect_52 : decode cX3_protect 52 = .ok (.ireturn, 1) := by decide +kernel
theorem dX3_pageOf_0 : decode cX3_pageOf 0 = .ok (.iload_n 0, 1) := by decide +kernel
theorem dX3_pageOf_1 : decode cX3_pageOf 1 = .ok (.ifCond .lt 16, 3) := by decide +kernel
theorem dX3_pageOf_4 : decode cX3_pageOf 4 = .ok (.iload_n 0, 1) := by decide +kernel
theorem dX3_pageOf_5 : decode cX3_pageOf 5 = .ok (.sipush 255, 3) := by decide +kernel
theorem dX3_pageOf_8 : decode cX3_pageOf 8 = .ok (.if_icmp .gt 9, 3) := by decide +kernel
theorem dX3_pageOf_11 : decode cX3_pageOf 11 = .ok (.iload_n 0, 1) := by decide +kernel
theorem dX3_pageOf_12 : decode cX3_pageOf 12 = .ok (.iconst 4, 1) := by decide +kernel
theorem dX3_pageOf_13 : decode cX3_pageOf 13 = .ok (.idiv, 1) := by decide +kernel
theorem dX3_pageOf_14 : decode cX3_pageOf 14 = .ok (.goto 4, 3) := by decide +kernel
theorem dX3_pageOf_17 : decode cX3_pageOf 17 = .ok (.iconst (-1), 1) := by decide +kernel
theorem dX3_pageOf_18 : decode cX3_pageOf 18 = .ok (.ireturn, 1) := by decide +kernel
theorem dX3_write_0 : decode cX3_write 0 = .ok (.iload_n 2, 1) := by decide +kernel
theorem dX3_write_1 : decode cX3_write 1 = .ok (.invokestatic 68, 3) := by decide +kernel
theorem dX3_write_4 : decode cX3_write 4 = .ok (.istore 4, 2) := by decide +kernel
theorem dX3_write_6 : decode cX3_write 6 = .ok (.aload_n 0, 1) := by decide +kernel
theorem dX3_write_7 : decode cX3_write 7 = .ok (.iload_n 1, 1) := by decide +kernel
theorem dX3_write_8 : decode cX3_write 8 = .ok (.iload 4, 2) := by decide +kernel
theorem dX3_write_10 : decode cX3_write 10 = .ok (.invokevirtual 65, 3) := by decide +kernel
theorem dX3_write_13 : decode cX3_write 13 = .ok (.istore 5, 2) := by decide +kernel
theorem dX3_write_15 : decode cX3_write 15 = .ok (.iload 5, 2) := by decide +kernel
theorem dX3_write_17 : decode cX3_write 17 = .ok (.ifCond .ge 6, 3) := by decide +kernel
theorem dX3_write_20 : decode cX3_write 20 = .ok (.iload 5, 2) := by decide +kernel
theorem dX3_write_22 : decode cX3_write 22 = .ok (.ireturn, 1) := by decide +kernel
theorem dX3_write_23 : decode cX3_write 23 = .ok (.bipush 64, 2) := by decide +kernel
theorem dX3_write_25 : decode cX3_write 25 = .ok (.iload_n 1, 1) := by decide +kernel
theorem dX3_write_26 : decode cX3_write 26 = .ok (.imul, 1) := by decide +kernel
theorem dX3_write_27 : decode cX3_write 27 = .ok (.iload 4, 2) := by decide +kernel
theorem dX3_write_29 : decode cX3_write 29 = .ok (.iadd, 1) := by decide +kernel
theorem dX3_write_30 : decode cX3_write 30 = .ok (.istore 6, 2) := by decide +kernel
theorem dX3_write_32 : decode cX3_write 32 = .ok (.aload_n 0, 1) := by decide +kernel
theorem dX3_write_33 : decode cX3_write 33 = .ok (.getfield 20, 3) := by decide +kernel
theorem dX3_write_36 : decode cX3_write 36 = .ok (.iload 6, 2) := by decide +kernel
theorem dX3_write_38 : decode cX3_write 38 = .ok (.baload, 1) := by decide +kernel
theorem dX3_write_39 : decode cX3_write 39 = .ok (.ifCond .ne 6, 3) := by decide +kernel
theorem dX3_write_42 : decode cX3_write 42 = .ok (.bipush (-5), 2) := by decide +kernel
theorem dX3_write_44 : decode cX3_write 44 = .ok (.ireturn, 1) := by decide +kernel
theorem dX3_write_45 : decode cX3_write 45 = .ok (.aload_n 0, 1) := by decide +kernel
theorem dX3_write_46 : decode cX3_write 46 = .ok (.getfield 13, 3) := by decide +kernel
theorem dX3_write_49 : decode cX3_write 49 = .ok (.iload 6, 2) := by decide +kernel
theorem dX3_write_51 : decode cX3_write 51 = .ok (.iaload, 1) := by decide +kernel
theorem dX3_write_52 : decode cX3_write 52 = .ok (.iconst 1, 1) := by decide +kernel
theorem dX3_write_53 : decode cX3_write 53 = .ok (.isub, 1) := by decide +kernel
theorem dX3_write_54 : decode cX3_write 54 = .ok (.istore 7, 2) := by decide +kernel
theorem dX3_write_56 : decode cX3_write 56 = .ok (.aload_n 0, 1) := by decide +kernel
theorem dX3_write_57 : decode cX3_write 57 = .ok (.getfield 23, 3) := by decide +kernel
theorem dX3_write_60 : decode cX3_write 60 = .ok (.iload 6, 2) := by decide +kernel
theorem dX3_write_62 : decode cX3_write 62 = .ok (.baload, 1) := by decide +kernel
theorem dX3_write_63 : decode cX3_write 63 = .ok (.ifCond .eq 17, 3) := by decide +kernel
theorem dX3_write_66 : decode cX3_write 66 = .ok (.aload_n 0, 1) := by decide +kernel
theorem dX3_write_67 : decode cX3_write 67 = .ok (.iload 7, 2) := by decide +kernel
theorem dX3_write_69 : decode cX3_write 69 = .ok (.invokevirtual 33, 3) := by decide +kernel
theorem dX3_write_72 : decode cX3_write 72 = .ok (.iconst 1, 1) := by decide +kernel
theorem dX3_write_73 : decode cX3_write 73 = .ok (.if_icmp .le 7, 3) := by decide +kernel
theorem dX3_write_76 : decode cX3_write 76 = .ok (.iconst 1, 1) := by decide +kernel
theorem dX3_write_77 : decode cX3_write 77 = .ok (.goto 4, 3) := by decide +kernel
theorem dX3_write_80 : decode cX3_write 80 = .ok (.iconst 0, 1) := by decide +kernel
theorem dX3_write_81 : decode cX3_write 81 = .ok (.istore 8, 2) := by decide +kernel
theorem dX3_write_83 : decode cX3_write 83 = .ok (.iload 8, 2) := by decide +kernel
theorem dX3_write_85 : decode cX3_write 85 = .ok (.ifCond .eq 13, 3) := by decide +kernel
theorem dX3_write_88 : decode cX3_write 88 = .ok (.aload_n 0, 1) := by decide +kernel
theorem dX3_write_89 : decode cX3_write 89 = .ok (.invokevirtual 44, 3) := by decide +kernel
theorem dX3_write_92 : decode cX3_write 92 = .ok (.ifCond .ne 6, 3) := by decide +kernel
theorem dX3_write_95 : decode cX3_write 95 = .ok (.bipush (-8), 2) := by decide +kernel
theorem dX3_write_97 : decode cX3_write 97 = .ok (.ireturn, 1) := by decide +kernel
theorem dX3_write_98 : decode cX3_write 98 = .ok (.iload 8, 2) := by decide +kernel
theorem dX3_write_100 : decode cX3_write 100 = .ok (.ifCond .eq 7, 3) := by decide +kernel
theorem dX3_write_103 : decode cX3_write 103 = .ok (.iconst 2, 1) := by decide +kernel
theorem dX3_write_104 : decode cX3_write 104 = .ok (.goto 18, 3) := by decide +kernel
theorem dX3_write_107 : decode cX3_write 107 = .ok (.aload_n 0, 1) := by decide +kernel
theorem dX3_write_108 : decode cX3_write 108 = .ok (.getfield 23, 3) := by decide +kernel
theorem dX3_write_111 : decode cX3_write 111 = .ok (.iload 6, 2) := by decide +kernel
theorem dX3_write_113 : decode cX3_write 113 = .ok (.baload, 1) := by decide +kernel
theorem dX3_write_114 : decode cX3_write 114 = .ok (.ifCond .eq 7, 3) := by decide +kernel
theorem dX3_write_117 : decode cX3_write 117 = .ok (.iconst 1, 1) := by decide +kernel
theorem dX3_write_118 : decode cX3_write 118 = .ok (.goto 4, 3) := by decide +kernel
theorem dX3_write_121 : decode cX3_write 121 = .ok (.iconst 0, 1) := by decide +kernel
theorem dX3_write_122 : decode cX3_write 122 = .ok (.istore 9, 2) := by decide +kernel
theorem dX3_write_124 : decode cX3_write 124 = .ok (.iload 8, 2) := by decide +kernel
theorem dX3_write_126 : decode cX3_write 126 = .ok (.ifCond .eq 69, 3) := by decide +kernel
theorem dX3_write_129 : decode cX3_write 129 = .ok (.aload_n 0, 1) := by decide +kernel
theorem dX3_write_130 : decode cX3_write 130 = .ok (.invokevirtual 62, 3) := by decide +kernel
theorem dX3_write_133 : decode cX3_write 133 = .ok (.istore 10, 2) := by decide +kernel
theorem dX3_write_135 : decode cX3_write 135 = .ok (.iconst 0, 1) := by decide +kernel
theorem dX3_write_136 : decode cX3_write 136 = .ok (.istore 11, 2) := by decide +kernel
theorem dX3_write_138 : decode cX3_write 138 = .ok (.iload 11, 2) := by decide +kernel
theorem dX3_write_140 : decode cX3_write 140 = .ok (.iconst 4, 1) := by decide +kernel
theorem dX3_write_141 : decode cX3_write 141 = .ok (.if_icmp .ge 33, 3) := by decide +kernel
theorem dX3_write_144 : decode cX3_write 144 = .ok (.aload_n 0, 1) := by decide +kernel
theorem dX3_write_145 : decode cX3_write 145 = .ok (.getfield 26, 3) := by decide +kernel
theorem dX3_write_148 : decode cX3_write 148 = .ok (.iconst 4, 1) := by decide +kernel
theorem dX3_write_149 : decode cX3_write 149 = .ok (.iload 10, 2) := by decide +kernel
theorem dX3_write_151 : decode cX3_write 151 = .ok (.imul, 1) := by decide +kernel
theorem dX3_write_152 : decode cX3_write 152 = .ok (.iload 11, 2) := by decide +kernel
theorem dX3_write_154 : decode cX3_write 154 = .ok (.iadd, 1) := by decide +kernel
theorem dX3_write_155 : decode cX3_write 155 = .ok (.aload_n 0, 1) := by decide +kernel
theorem dX3_write_156 : decode cX3_write 156 = .ok (.getfield 26, 3) := by decide +kernel
theorem dX3_write_159 : decode cX3_write 159 = .ok (.iconst 4, 1) := by decide +kernel
theorem dX3_write_160 : decode cX3_write 160 = .ok (.iload 7, 2) := by decide +kernel
theorem dX3_write_162 : decode cX3_write 162 = .ok (.imul, 1) := by decide +kernel
theorem dX3_write_163 : decode cX3_write 163 = .ok (.iload 11, 2) := by decide +kernel
theorem dX3_write_165 : decode cX3_write 165 = .ok (.iadd, 1) := by decide +kernel
theorem dX3_write_166 : decode cX3_write 166 = .ok (.iaload, 1) := by decide +kernel
theorem dX3_write_167 : decode cX3_write 167 = .ok (.iastore, 1) := by decide +kernel
theorem dX3_write_168 : decode cX3_write 168 = .ok (.iinc 11 1, 3) := by decide +kernel
theorem dX3_write_171 : decode cX3_write 171 = .ok (.goto (-33), 3) := by decide +kernel
theorem dX3_write_174 : decode cX3_write 174 = .ok (.aload_n 0, 1) := by decide +kernel
theorem dX3_write_175 : decode cX3_write 175 = .ok (.getfield 13, 3) := by decide +kernel
theorem dX3_write_178 : decode cX3_write 178 = .ok (.iload 6, 2) := by decide +kernel
theorem dX3_write_180 : decode cX3_write 180 = .ok (.iload 10, 2) := by decide +kernel
theorem dX3_write_182 : decode cX3_write 182 = .ok (.iconst 1, 1) := by decide +kernel
theorem dX3_write_183 : decode cX3_write 183 = .ok (.iadd, 1) := by decide +kernel
theorem dX3_write_184 : decode cX3_write 184 = .ok (.iastore, 1) := by decide +kernel
theorem dX3_write_185 : decode cX3_write 185 = .ok (.aload_n 0, 1) := by decide +kernel
theorem dX3_write_186 : decode cX3_write 186 = .ok (.dup, 1) := by decide +kernel
theorem dX3_write_187 : decode cX3_write 187 = .ok (.getfield 71, 3) := by decide +kernel
theorem dX3_write_190 : decode cX3_write 190 = .ok (.iconst 1, 1) := by decide +kernel
theorem dX3_write_191 : decode cX3_write 191 = .ok (.iadd, 1) := by decide +kernel
theorem dX3_write_192 : decode cX3_write 192 = .ok (.putfield 71, 3) := by decide +kernel
theorem dX3_write_195 : decode cX3_write 195 = .ok (.aload_n 0, 1) := by decide +kernel
theorem dX3_write_196 : decode cX3_write 196 = .ok (.iload 9, 2) := by decide +kernel
theorem dX3_write_198 : decode cX3_write 198 = .ok (.ifCond .le 12, 3) := by decide +kernel
theorem dX3_write_201 : decode cX3_write 201 = .ok (.aload_n 0, 1) := by decide +kernel
theorem dX3_write_202 : decode cX3_write 202 = .ok (.getfield 75, 3) := by decide +kernel
theorem dX3_write_205 : decode cX3_write 205 = .ok (.iconst 1, 1) := by decide +kernel
theorem dX3_write_206 : decode cX3_write 206 = .ok (.iadd, 1) := by decide +kernel
theorem dX3_write_207 : decode cX3_write 207 = .ok (.goto 7, 3) := by decide +kernel
theorem dX3_write_210 : decode cX3_write 210 = .ok (.aload_n 0, 1) := by decide +kernel
theorem dX3_write_211 : decode cX3_write 211 = .ok (.getfield 75, 3) := by decide +kernel
theorem dX3_write_214 : decode cX3_write 214 = .ok (.putfield 75, 3) := by decide +kernel
theorem dX3_write_217 : decode cX3_write 217 = .ok (.aload_n 0, 1) := by decide +kernel
theorem dX3_write_218 : decode cX3_write 218 = .ok (.getfield 23, 3) := by decide +kernel
theorem dX3_write_221 : decode cX3_write 221 = .ok (.iload 6, 2) := by decide +kernel
theorem dX3_write_223 : decode cX3_write 223 = .ok (.iconst 0, 1) := by decide +kernel
theorem dX3_write_224 : decode cX3_write 224 = .ok (.bastore, 1) := by decide +kernel
theorem dX3_write_225 : decode cX3_write 225 = .ok (.aload_n 0, 1) := by decide +kernel
theorem dX3_write_226 : decode cX3_write 226 = .ok (.getfield 26, 3) := by decide +kernel
theorem dX3_write_229 : decode cX3_write 229 = .ok (.iconst 4, 1) := by decide +kernel
theorem dX3_write_230 : decode cX3_write 230 = .ok (.aload_n 0, 1) := by decide +kernel
theorem dX3_write_231 : decode cX3_write 231 = .ok (.getfield 13, 3) := by decide +kernel
theorem dX3_write_234 : decode cX3_write 234 = .ok (.iload 6, 2) := by decide +kernel
theorem dX3_write_236 : decode cX3_write 236 = .ok (.iaload, 1) := by decide +kernel
theorem dX3_write_237 : decode cX3_write 237 = .ok (.iconst 1, 1) := by decide +kernel
theorem dX3_write_238 : decode cX3_write 238 = .ok (.isub, 1) := by decide +kernel
theorem dX3_write_239 : decode cX3_write 239 = .ok (.imul, 1) := by decide +kernel
theorem dX3_write_240 : decode cX3_write 240 = .ok (.iload_n 2, 1) := by decide +kernel
theorem dX3_write_241 : decode cX3_write 241 = .ok (.iconst 4, 1) := by decide +kernel
theorem dX3_write_242 : decode cX3_write 242 = .ok (.irem, 1) := by decide +kernel
theorem dX3_write_243 : decode cX3_write 243 = .ok (.iadd, 1) := by decide +kernel
theorem dX3_write_244 : decode cX3_write 244 = .ok (.iload_n 3, 1) := by decide +kernel
theorem dX3_write_245 : decode cX3_write 245 = .ok (.iastore, 1) := by decide +kernel
theorem dX3_write_246 : decode cX3_write 246 = .ok (.iload 9, 2) := by decide +kernel
theorem dX3_write_248 : decode cX3_write 248 = .ok (.ireturn, 1) := by decide +kernel
theorem dX3_read_0 : decode cX3_read 0 = .ok (.iload_n 2, 1) := by decide +kernel
theorem dX3_read_1 : decode cX3_read 1 = .ok (.invokestatic 68, 3) := by decide +kernel
theorem dX3_read_4 : decode cX3_read 4 = .ok (.istore_n 3, 1) := by decide +kernel
theorem dX3_read_5 : decode cX3_read 5 = .ok (.aload_n 0, 1) := by decide +kernel
theorem dX3_read_6 : decode cX3_read 6 = .ok (.iload_n 1, 1) := by decide +kernel
theorem dX3_read_7 : decode cX3_read 7 = .ok (.iload_n 3, 1) := by decide +kernel
theorem dX3_read_8 : decode cX3_read 8 = .ok (.invokevirtual 65, 3) := by decide +kernel
theorem dX3_read_11 : decode cX3_read 11 = .ok (.ifCond .ge 7, 3) := by decide +kernel
theorem dX3_read_14 : decode cX3_read 14 = .ok (.ldc2_w 78, 3) := by decide +kernel
theorem dX3_read_17 : decode cX3_read 17 = .ok (.lreturn, 1) := by decide +kernel
theorem dX3_read_18 : decode cX3_read 18 = .ok (.aload_n 0, 1) := by decide +kernel
theorem dX3_read_19 : decode cX3_read 19 = .ok (.getfield 26, 3) := by decide +kernel
theorem dX3_read_22 : decode cX3_read 22 = .ok (.iconst 4, 1) := by decide +kernel
theorem dX3_read_23 : decode cX3_read 23 = .ok (.aload_n 0, 1) := by decide +kernel
theorem dX3_read_24 : decode cX3_read 24 = .ok (.getfield 13, 3) := by decide +kernel
theorem dX3_read_27 : decode cX3_read 27 = .ok (.bipush 64, 2) := by decide +kernel
theorem dX3_read_29 : decode cX3_read 29 = .ok (.iload_n 1, 1) := by decide +kernel
theorem dX3_read_30 : decode cX3_read 30 = .ok (.imul, 1) := by decide +kernel
theorem dX3_read_31 : decode cX3_read 31 = .ok (.iload_n 3, 1) := by decide +kernel
theorem dX3_read_32 : decode cX3_read 32 = .ok (.iadd, 1) := by decide +kernel
theorem dX3_read_33 : decode cX3_read 33 = .ok (.iaload, 1) := by decide +kernel
theorem dX3_read_34 : decode cX3_read 34 = .ok (.iconst 1, 1) := by decide +kernel
theorem dX3_read_35 : decode cX3_read 35 = .ok (.isub, 1) := by decide +kernel
theorem dX3_read_36 : decode cX3_read 36 = .ok (.imul, 1) := by decide +kernel
theorem dX3_read_37 : decode cX3_read 37 = .ok (.iload_n 2, 1) := by decide +kernel
theorem dX3_read_38 : decode cX3_read 38 = .ok (.iconst 4, 1) := by decide +kernel
theorem dX3_read_39 : decode cX3_read 39 = .ok (.irem, 1) := by decide +kernel
theorem dX3_read_40 : decode cX3_read 40 = .ok (.iadd, 1) := by decide +kernel
theorem dX3_read_41 : decode cX3_read 41 = .ok (.iaload, 1) := by decide +kernel
theorem dX3_read_42 : decode cX3_read 42 = .ok (.i2l, 1) := by decide +kernel
theorem dX3_read_43 : decode cX3_read 43 = .ok (.lreturn, 1) := by decide +kernel
theorem dX3_tables_0 : decode cX3_tables 0 = .ok (.aload_n 0, 1) := by decide +kernel
theorem dX3_tables_1 : decode cX3_tables 1 = .ok (.iload_n 1, 1) := by decide +kernel
theorem dX3_tables_2 : decode cX3_tables 2 = .ok (.invokevirtual 47, 3) := by decide +kernel
theorem dX3_tables_5 : decode cX3_tables 5 = .ok (.ifCond .eq 7, 3) := by decide +kernel
theorem dX3_tables_8 : decode cX3_tables 8 = .ok (.iconst (-1), 1) := by decide +kernel
theorem dX3_tables_9 : decode cX3_tables 9 = .ok (.goto 8, 3) := by decide +kernel
theorem dX3_tables_12 : decode cX3_tables 12 = .ok (.aload_n 0, 1) := by decide +kernel
theorem dX3_tables_13 : decode cX3_tables 13 = .ok (.iload_n 1, 1) := by decide +kernel
theorem dX3_tables_14 : decode cX3_tables 14 = .ok (.invokevirtual 37, 3) := by decide +kernel
theorem dX3_tables_17 : decode cX3_tables 17 = .ok (.ireturn, 1) := by decide +kernel
theorem dX3_pages_0 : decode cX3_pages 0 = .ok (.aload_n 0, 1) := by decide +kernel
theorem dX3_pages_1 : decode cX3_pages 1 = .ok (.iload_n 1, 1) := by decide +kernel
theorem dX3_pages_2 : decode cX3_pages 2 = .ok (.invokevirtual 47, 3) := by decide +kernel
theorem dX3_pages_5 : decode cX3_pages 5 = .ok (.ifCond .eq 5, 3) := by decide +kernel
theorem dX3_pages_8 : decode cX3_pages 8 = .ok (.iconst (-1), 1) := by decide +kernel
theorem dX3_pages_9 : decode cX3_pages 9 = .ok (.ireturn, 1) := by decide +kernel
theorem dX3_pages_10 : decode cX3_pages 10 = .ok (.iconst 0, 1) := by decide +kernel
theorem dX3_pages_11 : decode cX3_pages 11 = .ok (.istore_n 2, 1) := by decide +kernel
theorem dX3_pages_12 : decode cX3_pages 12 = .ok (.iconst 0, 1) := by decide +kernel
theorem dX3_pages_13 : decode cX3_pages 13 = .ok (.istore_n 3, 1) := by decide +kernel
theorem dX3_pages_14 : decode cX3_pages 14 = .ok (.iload_n 3, 1) := by decide +kernel
theorem dX3_pages_15 : decode cX3_pages 15 = .ok (.bipush 64, 2) := by decide +kernel
theorem dX3_pages_17 : decode cX3_pages 17 = .ok (.if_icmp .ge 31, 3) := by decide +kernel
theorem dX3_pages_20 : decode cX3_pages 20 = .ok (.aload_n 0, 1) := by decide +kernel
theorem dX3_pages_21 : decode cX3_pages 21 = .ok (.getfield 13, 3) := by decide +kernel
theorem dX3_pages_24 : decode cX3_pages 24 = .ok (.bipush 64, 2) := by decide +kernel
theorem dX3_pages_26 : decode cX3_pages 26 = .ok (.iload_n 1, 1) := by decide +kernel
theorem dX3_pages_27 : decode cX3_pages 27 = .ok (.imul, 1) := by decide +kernel
theorem dX3_pages_28 : decode cX3_pages 28 = .ok (.iload_n 3, 1) := by decide +kernel
theorem dX3_pages_29 : decode cX3_pages 29 = .ok (.iadd, 1) := by decide +kernel
theorem dX3_pages_30 : decode cX3_pages 30 = .ok (.iaload, 1) := by decide +kernel
theorem dX3_pages_31 : decode cX3_pages 31 = .ok (.ifCond .le 9, 3) := by decide +kernel
theorem dX3_pages_34 : decode cX3_pages 34 = .ok (.iload_n 2, 1) := by decide +kernel
theorem dX3_pages_35 : decode cX3_pages 35 = .ok (.iconst 1, 1) := by decide +kernel
theorem dX3_pages_36 : decode cX3_pages 36 = .ok (.iadd, 1) := by decide +kernel
theorem dX3_pages_37 : decode cX3_pages 37 = .ok (.goto 4, 3) := by decide +kernel
theorem dX3_pages_40 : decode cX3_pages 40 = .ok (.iload_n 2, 1) := by decide +kernel
theorem dX3_pages_41 : decode cX3_pages 41 = .ok (.istore_n 2, 1) := by decide +kernel
theorem dX3_pages_42 : decode cX3_pages 42 = .ok (.iinc 3 1, 3) := by decide +kernel
theorem dX3_pages_45 : decode cX3_pages 45 = .ok (.goto (-31), 3) := by decide +kernel
theorem dX3_pages_48 : decode cX3_pages 48 = .ok (.iload_n 2, 1) := by decide +kernel
theorem dX3_pages_49 : decode cX3_pages 49 = .ok (.ireturn, 1) := by decide +kernel
theorem dX3_count_0 : decode cX3_count 0 = .ok (.aload_n 0, 1) := by decide +kernel
theorem dX3_count_1 : decode cX3_count 1 = .ok (.iload_n 1, 1) := by decide +kernel
theorem dX3_count_2 : decode cX3_count 2 = .ok (.iload_n 2, 1) := by decide +kernel
theorem dX3_count_3 : decode cX3_count 3 = .ok (.invokevirtual 65, 3) := by decide +kernel
theorem dX3_count_6 : decode cX3_count 6 = .ok (.istore_n 3, 1) := by decide +kernel
theorem dX3_count_7 : decode cX3_count 7 = .ok (.iload_n 3, 1) := by decide +kernel
theorem dX3_count_8 : decode cX3_count 8 = .ok (.ifCond .ge 7, 3) := by decide +kernel
theorem dX3_count_11 : decode cX3_count 11 = .ok (.iload_n 3, 1) := by decide +kernel
theorem dX3_count_12 : decode cX3_count 12 = .ok (.goto 20, 3) := by decide +kernel
theorem dX3_count_15 : decode cX3_count 15 = .ok (.aload_n 0, 1) := by decide +kernel
theorem dX3_count_16 : decode cX3_count 16 = .ok (.aload_n 0, 1) := by decide +kernel
theorem dX3_count_17 : decode cX3_count 17 = .ok (.getfield 13, 3) := by decide +kernel
theorem dX3_count_20 : decode cX3_count 20 = .ok (.bipush 64, 2) := by decide +kernel
theorem dX3_count_22 : decode cX3_count 22 = .ok (.iload_n 1, 1) := by decide +kernel
theorem dX3_count_23 : decode cX3_count 23 = .ok (.imul, 1) := by decide +kernel
theorem dX3_count_24 : decode cX3_count 24 = .ok (.iload_n 2, 1) := by decide +kernel
theorem dX3_count_25 : decode cX3_count 25 = .ok (.iadd, 1) := by decide +kernel
theorem dX3_count_26 : decode cX3_count 26 = .ok (.iaload, 1) := by decide +kernel
theorem dX3_count_27 : decode cX3_count 27 = .ok (.iconst 1, 1) := by decide +kernel
theorem dX3_count_28 : decode cX3_count 28 = .ok (.isub, 1) := by decide +kernel
theorem dX3_count_29 : decode cX3_count 29 = .ok (.invokevirtual 33, 3) := by decide +kernel
theorem dX3_count_32 : decode cX3_count 32 = .ok (.ireturn, 1) := by decide +kernel
theorem dX3_mapping_0 : decode cX3_mapping 0 = .ok (.aload_n 0, 1) := by decide +kernel
theorem dX3_mapping_1 : decode cX3_mapping 1 = .ok (.iload_n 1, 1) := by decide +kernel
theorem dX3_mapping_2 : decode cX3_mapping 2 = .ok (.iload_n 2, 1) := by decide +kernel
theorem dX3_mapping_3 : decode cX3_mapping 3 = .ok (.invokevirtual 65, 3) := by decide +kernel
theorem dX3_mapping_6 : decode cX3_mapping 6 = .ok (.istore_n 3, 1) := by decide +kernel
theorem dX3_mapping_7 : decode cX3_mapping 7 = .ok (.iload_n 3, 1) := by decide +kernel
theorem dX3_mapping_8 : decode cX3_mapping 8 = .ok (.ifCond .ge 5, 3) := by decide +kernel
theorem dX3_mapping_11 : decode cX3_mapping 11 = .ok (.iload_n 3, 1) := by decide +kernel
theorem dX3_mapping_12 : decode cX3_mapping 12 = .ok (.ireturn, 1) := by decide +kernel
theorem dX3_mapping_13 : decode cX3_mapping 13 = .ok (.bipush 64, 2) := by decide +kernel
theorem dX3_mapping_15 : decode cX3_mapping 15 = .ok (.iload_n 1, 1) := by decide +kernel
theorem dX3_mapping_16 : decode cX3_mapping 16 = .ok (.imul, 1) := by decide +kernel
theorem dX3_mapping_17 : decode cX3_mapping 17 = .ok (.iload_n 2, 1) := by decide +kernel
theorem dX3_mapping_18 : decode cX3_mapping 18 = .ok (.iadd, 1) := by decide +kernel
theorem dX3_mapping_19 : decode cX3_mapping 19 = .ok (.istore 4, 2) := by decide +kernel
theorem dX3_mapping_21 : decode cX3_mapping 21 = .ok (.aload_n 0, 1) := by decide +kernel
theorem dX3_mapping_22 : decode cX3_mapping 22 = .ok (.getfield 20, 3) := by decide +kernel
theorem dX3_mapping_25 : decode cX3_mapping 25 = .ok (.iload 4, 2) := by decide +kernel
theorem dX3_mapping_27 : decode cX3_mapping 27 = .ok (.baload, 1) := by decide +kernel
theorem dX3_mapping_28 : decode cX3_mapping 28 = .ok (.ifCond .eq 7, 3) := by decide +kernel
theorem dX3_mapping_31 : decode cX3_mapping 31 = .ok (.iconst 1, 1) := by decide +kernel
theorem dX3_mapping_32 : decode cX3_mapping 32 = .ok (.goto 4, 3) := by decide +kernel
theorem dX3_mapping_35 : decode cX3_mapping 35 = .ok (.iconst 0, 1) := by decide +kernel
theorem dX3_mapping_36 : decode cX3_mapping 36 = .ok (.aload_n 0, 1) := by decide +kernel
theorem dX3_mapping_37 : decode cX3_mapping 37 = .ok (.getfield 17, 3) := by decide +kernel
theorem dX3_mapping_40 : decode cX3_mapping 40 = .ok (.iload 4, 2) := by decide +kernel
theorem dX3_mapping_42 : decode cX3_mapping 42 = .ok (.baload, 1) := by decide +kernel
theorem dX3_mapping_43 : decode cX3_mapping 43 = .ok (.ifCond .eq 7, 3) := by decide +kernel
theorem dX3_mapping_46 : decode cX3_mapping 46 = .ok (.iconst 2, 1) := by decide +kernel
theorem dX3_mapping_47 : decode cX3_mapping 47 = .ok (.goto 4, 3) := by decide +kernel
theorem dX3_mapping_50 : decode cX3_mapping 50 = .ok (.iconst 0, 1) := by decide +kernel
theorem dX3_mapping_51 : decode cX3_mapping 51 = .ok (.iadd, 1) := by decide +kernel
theorem dX3_mapping_52 : decode cX3_mapping 52 = .ok (.aload_n 0, 1) := by decide +kernel
theorem dX3_mapping_53 : decode cX3_mapping 53 = .ok (.getfield 23, 3) := by decide +kernel
theorem dX3_mapping_56 : decode cX3_mapping 56 = .ok (.iload 4, 2) := by decide +kernel
theorem dX3_mapping_58 : decode cX3_mapping 58 = .ok (.baload, 1) := by decide +kernel
theorem dX3_mapping_59 : decode cX3_mapping 59 = .ok (.ifCond .eq 7, 3) := by decide +kernel
theorem dX3_mapping_62 : decode cX3_mapping 62 = .ok (.iconst 4, 1) := by decide +kernel
theorem dX3_mapping_63 : decode cX3_mapping 63 = .ok (.goto 4, 3) := by decide +kernel
theorem dX3_mapping_66 : decode cX3_mapping 66 = .ok (.iconst 0, 1) := by decide +kernel
theorem dX3_mapping_67 : decode cX3_mapping 67 = .ok (.iadd, 1) := by decide +kernel
theorem dX3_mapping_68 : decode cX3_mapping 68 = .ok (.ireturn, 1) := by decide +kernel
theorem dX3_twin_0 : decode cX3_twin 0 = .ok (.aload_n 0, 1) := by decide +kernel
theorem dX3_twin_1 : decode cX3_twin 1 = .ok (.iload_n 1, 1) := by decide +kernel
theorem dX3_twin_2 : decode cX3_twin 2 = .ok (.invokevirtual 47, 3) := by decide +kernel
theorem dX3_twin_5 : decode cX3_twin 5 = .ok (.ifCond .ne 11, 3) := by decide +kernel
theorem dX3_twin_8 : decode cX3_twin 8 = .ok (.aload_n 0, 1) := by decide +kernel
theorem dX3_twin_9 : decode cX3_twin 9 = .ok (.iload_n 3, 1) := by decide +kernel
theorem dX3_twin_10 : decode cX3_twin 10 = .ok (.invokevirtual 47, 3) := by decide +kernel
theorem dX3_twin_13 : decode cX3_twin 13 = .ok (.ifCond .eq 5, 3) := by decide +kernel
theorem dX3_twin_16 : decode cX3_twin 16 = .ok (.iconst (-1), 1) := by decide +kernel
theorem dX3_twin_17 : decode cX3_twin 17 = .ok (.ireturn, 1) := by decide +kernel
theorem dX3_twin_18 : decode cX3_twin 18 = .ok (.aload_n 0, 1) := by decide +kernel
theorem dX3_twin_19 : decode cX3_twin 19 = .ok (.iload_n 1, 1) := by decide +kernel
theorem dX3_twin_20 : decode cX3_twin 20 = .ok (.iload_n 2, 1) := by decide +kernel
theorem dX3_twin_21 : decode cX3_twin 21 = .ok (.invokevirtual 65, 3) := by decide +kernel
theorem dX3_twin_24 : decode cX3_twin 24 = .ok (.istore 5, 2) := by decide +kernel
theorem dX3_twin_26 : decode cX3_twin 26 = .ok (.iload 5, 2) := by decide +kernel
theorem dX3_twin_28 : decode cX3_twin 28 = .ok (.ifCond .ge 6, 3) := by decide +kernel
theorem dX3_twin_31 : decode cX3_twin 31 = .ok (.iload 5, 2) := by decide +kernel
theorem dX3_twin_33 : decode cX3_twin 33 = .ok (.ireturn, 1) := by decide +kernel
theorem dX3_twin_34 : decode cX3_twin 34 = .ok (.bipush 64, 2) := by decide +kernel
theorem dX3_twin_36 : decode cX3_twin 36 = .ok (.istore 6, 2) := by decide +kernel
theorem dX3_twin_38 : decode cX3_twin 38 = .ok (.bipush 63, 2) := by decide +kernel
theorem dX3_twin_40 : decode cX3_twin 40 = .ok (.istore 7, 2) := by decide +kernel
theorem dX3_twin_42 : decode cX3_twin 42 = .ok (.iload 7, 2) := by decide +kernel
theorem dX3_twin_44 : decode cX3_twin 44 = .ok (.ifCond .lt 51, 3) := by decide +kernel
theorem dX3_twin_47 : decode cX3_twin 47 = .ok (.iload 7, 2) := by decide +kernel
theorem dX3_twin_49 : decode cX3_twin 49 = .ok (.iload 4, 2) := by decide +kernel
theorem dX3_twin_51 : decode cX3_twin 51 = .ok (.if_icmp .le 44, 3) := by decide +kernel
theorem dX3_twin_54 : decode cX3_twin 54 = .ok (.aload_n 0, 1) := by decide +kernel
theorem dX3_twin_55 : decode cX3_twin 55 = .ok (.getfield 13, 3) := by decide +kernel
theorem dX3_twin_58 : decode cX3_twin 58 = .ok (.bipush 64, 2) := by decide +kernel
theorem dX3_twin_60 : decode cX3_twin 60 = .ok (.iload_n 3, 1) := by decide +kernel
theorem dX3_twin_61 : decode cX3_twin 61 = .ok (.imul, 1) := by decide +kernel
theorem dX3_twin_62 : decode cX3_twin 62 = .ok (.iload 7, 2) := by decide +kernel
theorem dX3_twin_64 : decode cX3_twin 64 = .ok (.iadd, 1) := by decide +kernel
theorem dX3_twin_65 : decode cX3_twin 65 = .ok (.iaload, 1) := by decide +kernel
theorem dX3_twin_66 : decode cX3_twin 66 = .ok (.aload_n 0, 1) := by decide +kernel
theorem dX3_twin_67 : decode cX3_twin 67 = .ok (.getfield 13, 3) := by decide +kernel
theorem dX3_twin_70 : decode cX3_twin 70 = .ok (.bipush 64, 2) := by decide +kernel
theorem dX3_twin_72 : decode cX3_twin 72 = .ok (.iload_n 1, 1) := by decide +kernel
theorem dX3_twin_73 : decode cX3_twin 73 = .ok (.imul, 1) := by decide +kernel
theorem dX3_twin_74 : decode cX3_twin 74 = .ok (.iload_n 2, 1) := by decide +kernel
theorem dX3_twin_75 : decode cX3_twin 75 = .ok (.iadd, 1) := by decide +kernel
theorem dX3_twin_76 : decode cX3_twin 76 = .ok (.iaload, 1) := by decide +kernel
theorem dX3_twin_77 : decode cX3_twin 77 = .ok (.if_icmp .ne 8, 3) := by decide +kernel
theorem dX3_twin_80 : decode cX3_twin 80 = .ok (.iload 7, 2) := by decide +kernel
theorem dX3_twin_82 : decode cX3_twin 82 = .ok (.goto 5, 3) := by decide +kernel
theorem dX3_twin_85 : decode cX3_twin 85 = .ok (.iload 6, 2) := by decide +kernel
theorem dX3_twin_87 : decode cX3_twin 87 = .ok (.istore 6, 2) := by decide +kernel
theorem dX3_twin_89 : decode cX3_twin 89 = .ok (.iinc 7 (-1), 3) := by decide +kernel
theorem dX3_twin_92 : decode cX3_twin 92 = .ok (.goto (-50), 3) := by decide +kernel
theorem dX3_twin_95 : decode cX3_twin 95 = .ok (.iload 6, 2) := by decide +kernel
theorem dX3_twin_97 : decode cX3_twin 97 = .ok (.ireturn, 1) := by decide +kernel
theorem dX3_running_0 : decode cX3_running 0 = .ok (.iconst 0, 1) := by decide +kernel
theorem dX3_running_1 : decode cX3_running 1 = .ok (.istore_n 1, 1) := by decide +kernel
theorem dX3_running_2 : decode cX3_running 2 = .ok (.iconst 0, 1) := by decide +kernel
theorem dX3_running_3 : decode cX3_running 3 = .ok (.istore_n 2, 1) := by decide +kernel
theorem dX3_running_4 : decode cX3_running 4 = .ok (.iload_n 2, 1) := by decide +kernel
theorem dX3_running_5 : decode cX3_running 5 = .ok (.iconst 5, 1) := by decide +kernel
theorem dX3_running_6 : decode cX3_running 6 = .ok (.if_icmp .ge 28, 3) := by decide +kernel
theorem dX3_running_9 : decode cX3_running 9 = .ok (.aload_n 0, 1) := by decide +kernel
theorem dX3_running_10 : decode cX3_running 10 = .ok (.getfield 7, 3) := by decide +kernel
theorem dX3_running_13 : decode cX3_running 13 = .ok (.iload_n 2, 1) := by decide +kernel
theorem dX3_running_14 : decode cX3_running 14 = .ok (.baload, 1) := by decide +kernel
theorem dX3_running_15 : decode cX3_running 15 = .ok (.ifCond .eq 11, 3) := by decide +kernel
theorem dX3_running_18 : decode cX3_running 18 = .ok (.iload_n 1, 1) := by decide +kernel
theorem dX3_running_19 : decode cX3_running 19 = .ok (.iconst 1, 1) := by decide +kernel
theorem dX3_running_20 : decode cX3_running 20 = .ok (.iload_n 2, 1) := by decide +kernel
theorem dX3_running_21 : decode cX3_running 21 = .ok (.ishl, 1) := by decide +kernel
theorem dX3_running_22 : decode cX3_running 22 = .ok (.iadd, 1) := by decide +kernel
theorem dX3_running_23 : decode cX3_running 23 = .ok (.goto 4, 3) := by decide +kernel
theorem dX3_running_26 : decode cX3_running 26 = .ok (.iload_n 1, 1) := by decide +kernel
theorem dX3_running_27 : decode cX3_running 27 = .ok (.istore_n 1, 1) := by decide +kernel
theorem dX3_running_28 : decode cX3_running 28 = .ok (.iinc 2 1, 3) := by decide +kernel
theorem dX3_running_31 : decode cX3_running 31 = .ok (.goto (-27), 3) := by decide +kernel
theorem dX3_running_34 : decode cX3_running 34 = .ok (.iload_n 1, 1) := by decide +kernel
theorem dX3_running_35 : decode cX3_running 35 = .ok (.ireturn, 1) := by decide +kernel
theorem dX3_faults_0 : decode cX3_faults 0 = .ok (.iload_n 1, 1) := by decide +kernel
theorem dX3_faults_1 : decode cX3_faults 1 = .ok (.ifCond .eq 10, 3) := by decide +kernel
theorem dX3_faults_4 : decode cX3_faults 4 = .ok (.aload_n 0, 1) := by decide +kernel
theorem dX3_faults_5 : decode cX3_faults 5 = .ok (.getfield 71, 3) := by decide +kernel
theorem dX3_faults_8 : decode cX3_faults 8 = .ok (.goto 7, 3) := by decide +kernel
theorem dX3_faults_11 : decode cX3_faults 11 = .ok (.aload_n 0, 1) := by decide +kernel
theorem dX3_faults_12 : decode cX3_faults 12 = .ok (.getfield 75, 3) := by decide +kernel
theorem dX3_faults_15 : decode cX3_faults 15 = .ok (.ireturn, 1) := by decide +kernel
end
section
/-! own layer: words, contracts with one world before and one behind, calls, returns -/
def gT : List Cond := lw_tbl.filter goodWord
def gIsN : Cond → Bool
  | .fieldLinkNest _ _ _ _ _ _ => true
  | .methodLinkNest _ _ _ _ => true
  | _ => false
def gNw : List Cond := lw_tbl.filter gIsN
def gN (U : State) : Prop := ∀ w ∈ gNw, va_Nw w U
theorem gT_mem {w : Cond} (h : w ∈ lw_tbl) (hg : goodWord w = true) : w ∈ gT := List.mem_filter.mpr ⟨h, hg⟩
theorem gN_mem {w : Cond} (h : w ∈ lw_tbl) (hg : gIsN w = true) : w ∈ gNw := List.mem_filter.mpr ⟨h, hg⟩
theorem gT_in {c : Cond} (h : c ∈ gT) : GoodIn gT (c :: gT) := by
  intro w hw
  have hm : w ∈ gT := by
    rcases List.mem_cons.mp hw with h1 | h1
    · rw [h1]; exact h
    · exact h1
  exact ⟨hm, good_of_word (List.mem_filter.mp hm).2⟩
theorem gN_on {w : Cond} (h : gIsN w = true) : w.onTables = true := by
  cases w <;> first | rfl | (simp [gIsN] at h)
theorem gN_warm {s U : State} (hW : s.WarmedH U.vm) (h : gN s) : gN U := by
  intro w hw
  have h1 : gIsN w = true := (List.mem_filter.mp hw).2
  have h2 := h w hw
  cases w <;> first | exact va_Nw.warmF hW h2 | exact va_Nw.warmM hW h2 | (simp [gIsN] at h1)
theorem gN_same {u U : State} (hv : u.vm = U.vm) (h : gN u) : gN U := fun w hw => va_Nw.same (gN_on (List.mem_filter.mp hw).2) hv (h w hw)
theorem gN_of {args : Array Value} {s : State} (h : ∀ w ∈ lw_tbl, w.before args s = true) : gN s := fun w hw => va_Nw.of (gN_on (List.mem_filter.mp hw).2) (h w (List.mem_filter.mp hw).1)
/-- the world, at a state -/
def gB (D : va_G) (cl : List vw_C) (tys : List (ClassId × FieldType)) (A : Nat → Prop) (ws : va_W) (U : State) : Prop := va_P D cl ws U.heap ∧ va_K D cl tys U ∧ va_D A ws
/-- the world, inside a method that began at s -/
def gG (D : va_G) (cl : List vw_C) (tys : List (ClassId × FieldType)) (A : Nat → Prop) (s : State) (ws : va_W) (H : Heap) (locs : List Loc) : Prop := va_K D cl tys s ∧ va_P D cl ws H ∧ va_D A ws ∧ va_S A s.heap H locs
def gE (D : va_G) (cl : List vw_C) (tys : List (ClassId × FieldType)) (A : Nat → Prop) (r : Option Value) (ws : va_W) : Array Value → State → Outcome → State → Prop := fun _ st oc t => (oc = .returned r ∧ gB D cl tys A ws t) ∧ va_F A st t
def gR (fr lo : Nat) : Room := { frames := fr, cells := 0, slots := 0, locals := lo }
/-- a contract: from the world ws with the arguments av the method answers r and leaves the world ws' -/
def gM (l : Launch) (y : MethodName) (cc : ByteArray) (maxL : Nat) (ret : Option FieldType) (fr lo : Nat) (D : va_G) (cl : List vw_C) (tys : List (ClassId × FieldType)) (A : Nat → Prop) (ws : va_W) (av : List Value) (r : Option Value) (ws' : va_W) : Prop :=
  Met l y (.code y cc maxL ret :: gT) (gR fr lo) (va_Pc av (fun U => gN U ∧ gB D cl tys A ws U)) (gE D cl tys A r ws') 0 0 A
/-- where a method ends -/
def gQ (below : List Frame) (args : Array Value) (s : State) (D : va_G) (cl : List vw_C) (tys : List (ClassId × FieldType)) (A : Nat → Prop) (r : Option Value) (ws : va_W) : State → Prop := MQ below (gE D cl tys A r ws) args s 0 0 A
theorem gM_of {l : Launch} {y : MethodName} {cc : ByteArray} {maxL : Nat} {ret : Option FieldType} {fr lo : Nat} {D : va_G} {cl : List vw_C} {tys : List (ClassId × FieldType)} {A : Nat → Prop} {ws : va_W} {av : List Value} {r : Option Value} {ws' : va_W} (hy : plainName y.cls = true) (hav : (lg_sl av).length ≤ maxL)
    (body : ∀ (p : Program) (e : Env) (s : State) (m : MethodId) (args : Array Value) (below : List Frame) (meth : Method) (c : Code) (ls : Array Slot), p.tables.exec = Jvm.exec → c.code = cc → c.maxLocals = maxL → s.vm.findClass y.cls = some m.cls → (∀ w ∈ gT, w.before args s = true) → gN s → meth.sig.returnType = ret → meth.locks = false → lv_has ls maxL (lv_args 0 av) → gG D cl tys A s ws s.heap [] →
      W p l e (gR fr lo) s m args below meth c s.heap [] 0 0 (gQ below args s D cl tys A r ws') (F0 m 0 ls [])) : gM l y cc maxL ret fr lo D cl tys A ws av r ws' := by
  refine Met.ofW (cc := cc) (maxL := maxL) (ret := ret) hy rfl ?_
  intro p e s m args below meth c s₁ B hml hv
  obtain ⟨rfl, hN, hP, hK, hD⟩ := hv
  have hts := atoms_spec (ws := .code y cc maxL ret :: gT) B.pre
  have hown : s.vm.findClass y.cls = some m.cls := findClass_of_methodNamed B.named
  have hl := lv_entry av (n := maxL) hav
  rw [lg_entry_eq]
  exact body p e s m _ below meth c _ B.exec B.bytes hml hown (fun w h => hts w (List.mem_cons_of_mem _ h)) hN B.returns B.notSynchronized hl ⟨hK, hP, hD, va_S.rf⟩
section GL
variable {p : Program} {l : Launch} {e : Env} {R : Room} {s : State} {m : MethodId} {args : Array Value} {below : List Frame} {meth : Method} {c : Code} {H : Heap} {locs : List Loc} {cells slots : Nat} {Q : State → Prop}
variable {cc : ByteArray} {pc : Nat} {ls : Array Slot} {rest : List Value} {D : va_G} {cl : List vw_C} {A : Nat → Prop} {tys : List (ClassId × FieldType)} {ws ws' : va_W}
theorem gE_of {r : Option Value} (hG : gG D cl tys A s ws H locs) : ∀ t : State, t.heap = H → s.WarmedH t.vm → gE D cl tys A r ws args s (.returned r) t := by
  obtain ⟨hK, hP, hD, hS⟩ := hG
  intro t ht hW
  exact ⟨⟨rfl, by rw [ht]; exact hP, va_K.moved hW.alike hK, hD⟩, hS.F ht⟩
theorem g_iret {v : Int32} (hx : p.tables.exec = Jvm.exec) (hb : c.code = cc) (hr : meth.sig.returnType = some .int) (hlk : meth.locks = false) (hG : gG D cl tys A s ws H locs) (hdg : decode cc pc = .ok (.ireturn, 1)) :
    W p l e R s m args below meth c H locs 0 0 (gQ below args s D cl tys A (some (.int v)) ws) (F0 m pc ls [.int v]) := W.iret hx hb hr (gE_of hG) hG.2.2.2.2.2 hdg
theorem g_zret {v : Int32} (hx : p.tables.exec = Jvm.exec) (hb : c.code = cc) (hr : meth.sig.returnType = some .boolean) (hn : narrow .boolean (.int v) = .int v) (hlk : meth.locks = false) (hG : gG D cl tys A s ws H locs) (hdg : decode cc pc = .ok (.ireturn, 1)) :
    W p l e R s m args below meth c H locs 0 0 (gQ below args s D cl tys A (some (.int v)) ws) (F0 m pc ls [.int v]) := W.zret hx hb hr hn (gE_of hG) hG.2.2.2.2.2 hdg
theorem g_lret {v : Int64} (hx : p.tables.exec = Jvm.exec) (hb : c.code = cc) (hr : meth.sig.returnType = some .long) (hlk : meth.locks = false) (hG : gG D cl tys A s ws H locs) (hdg : decode cc pc = .ok (.lreturn, 1)) :
    W p l e R s m args below meth c H locs 0 0 (gQ below args s D cl tys A (some (.long v)) ws) (F0 m pc ls [.long v]) := W.lret hx hb hr (gE_of hG) hG.2.2.2.2.2 hdg
theorem g_vret (hx : p.tables.exec = Jvm.exec) (hb : c.code = cc) (hr : meth.sig.returnType = none) (hlk : meth.locks = false) (hG : gG D cl tys A s ws H locs) (hdg : decode cc pc = .ok (.return_, 1)) :
    W p l e R s m args below meth c H locs 0 0 (gQ below args s D cl tys A none ws) (F0 m pc ls []) := W.vret hx hb hr (gE_of hG) hG.2.2.2.2.2 hdg
/-- behind a call -/
theorem g_call {st0 : List Value} {r : Option Value} {a : Array Value} (hG : gG D cl tys A s ws H locs) (hr : va_Run p l e R s m args below meth c H locs cells slots 0 0 (F0 m pc ls st0) rest (gE D cl tys A r ws' a) A)
    (kk : ∀ (H1 : Heap) (locs1 : List Loc), gG D cl tys A s ws' H1 locs1 → W p l e R s m args below meth c H1 locs1 cells slots Q (F0 m (pc + 3) ls (r.toList ++ rest))) : W p l e R s m args below meth c H locs cells slots Q (F0 m pc ls st0) := by
  obtain ⟨hK, hP, hD, hS⟩ := hG
  intro T hT X
  obtain ⟨v, st₀, t, T', L, h0, X', hL, e1, e2, ⟨⟨hv, hPt, hKt, hDt⟩, hz, hk⟩, st⟩ := hr T hT X
  cases hv
  rw [h0] at hz hk
  obtain ⟨t2, a1, b1⟩ := kk T'.heap (locs ++ L) ⟨hK, by rw [e1]; exact hPt, hDt, Nat.le_trans hS.1 (by rw [e1]; exact hz), fun q h1 h2 => by rw [e1, hk q (Nat.lt_of_lt_of_le h1 hS.1) h2]; exact hS.2.1 q h1 h2, fun q hq => by
      rcases List.mem_append.mp hq with h | h
      · exact hS.2.2 q h
      · exact hL q h⟩ T' rfl X'
  exact ⟨t2, st t2 a1, b1⟩
theorem g_blind {av : List Value} : FrameBlind (va_Pc av (fun U => gN U ∧ gB D cl tys A ws U)) := by
  intro a U g mk q
  obtain ⟨q0, qN, qP, qK, qD⟩ := q
  exact ⟨q0, gN_same (u := U) (U := U.calling g mk a) rfl qN, qP, va_K.moved (u := U) (U := U.calling g mk a) (Vm.Alike.refl U.vm) qK, qD⟩
theorem g_pre {av : List Value} (hN : gN s) (hG : gG D cl tys A s ws H locs) : ∀ U : State, U.heap = H → s.WarmedH U.vm → va_Pc av (fun U => gN U ∧ gB D cl tys A ws U) av.toArray U := by
  obtain ⟨hK, hP, hD, hS⟩ := hG
  intro U hU hW
  exact ⟨rfl, gN_warm hW hN, by rw [hU]; exact hP, va_K.moved hW.alike hK, hD⟩
variable {y : MethodName} {bytes : ByteArray} {maxL nL fr lo index : Nat} {ret : Option FieldType} {own host : String} {b : Nat} {As : List Value} {r : Option Value} {T0 : u_T} {N0 ci q0 : Nat} {fs : List Value}
/-- what is decided of a method's name, for a call with n arguments -/
def g_nm (y : MethodName) (n : Nat) : Prop := y.cls ≠ "java/lang/invoke/MethodHandle" ∧ y.cls ≠ "java/lang/invoke/VarHandle" ∧ (parseMethodDescriptor y.desc).map (fun d => d.parameters.length) = some n
/-- invokevirtual, a method of the caller's own or a public one -/
theorem g_callV (hM : gM l y bytes maxL ret fr lo D cl tys A ws (.ref b :: As) r ws') (hx : p.tables.exec = Jvm.exec) (hb : c.code = cc) (hml : c.maxLocals = nL) (hown : s.vm.findClass own = some m.cls) (hts : ∀ w ∈ gT, w.before args s = true) (hN : gN s) (hG : gG D cl tys A s ws H locs)
    (hl : Cond.methodLink own index y ∈ gT) (hin : Cond.instanceMethod y ∈ gT) (hse : Cond.selects y.cls y y ∈ gT) (hini : Cond.initialized y.cls ∈ gT) (hcode : Cond.code y bytes maxL ret ∈ gT) (hd : g_nm y As.length) (hR : fr + 1 ≤ R.frames ∧ 8 + (maxL + 11) + lo ≤ R.locals)
    (he : ws[q0]? = some (b, .inr (ci, fs))) (hc : cl[ci]? = some (y.cls, T0, N0)) (hsz : ls.size = nL) (hW : (rest.map fun v => v.category).sum ≤ 8) (hdg : decode cc pc = .ok (.invokevirtual index, 3)) (hf : cells ≤ R.cells ∧ slots ≤ R.slots)
    (kk : ∀ (H1 : Heap) (locs1 : List Loc), gG D cl tys A s ws' H1 locs1 → W p l e R s m args below meth c H1 locs1 cells slots Q (F0 m (pc + 3) ls (r.toList ++ rest))) : W p l e R s m args below meth c H locs cells slots Q (F0 m pc ls (As.reverse ++ .ref b :: rest)) := by
  refine g_call hG (va_runV (C := y.cls) (As := As) (rest := rest) (n := As.length) ⟨hx, hb, hml, hown, hts⟩ hM ⟨callB_of As.length hts (gT_in hcode) rfl rfl rfl (hts _ hini) (hts _ hl) hd hR, hts _ hin, hts _ hse⟩ ⟨g_blind, ?_, g_pre (av := .ref b :: As) hN hG⟩ rfl rfl hsz rfl (lv_room hW) hdg hf) kk
  exact va_recv hG.1 hG.2.1 hc he
/-- invokevirtual, a nest mate's own method -/
theorem g_callVN (hM : gM l y bytes maxL ret fr lo D cl tys A ws (.ref b :: As) r ws') (hx : p.tables.exec = Jvm.exec) (hb : c.code = cc) (hml : c.maxLocals = nL) (hown : s.vm.findClass own = some m.cls) (hts : ∀ w ∈ gT, w.before args s = true) (hN : gN s) (hG : gG D cl tys A s ws H locs)
    (hl : Cond.methodLinkNest own index y host ∈ gNw) (hin : Cond.instanceMethod y ∈ gT) (hse : Cond.selects y.cls y y ∈ gT) (hini : Cond.initialized y.cls ∈ gT) (hcode : Cond.code y bytes maxL ret ∈ gT) (hd : g_nm y As.length) (hR : fr + 1 ≤ R.frames ∧ 8 + (maxL + 11) + lo ≤ R.locals)
    (he : ws[q0]? = some (b, .inr (ci, fs))) (hc : cl[ci]? = some (y.cls, T0, N0)) (hsz : ls.size = nL) (hW : (rest.map fun v => v.category).sum ≤ 8) (hdg : decode cc pc = .ok (.invokevirtual index, 3)) (hf : cells ≤ R.cells ∧ slots ≤ R.slots)
    (kk : ∀ (H1 : Heap) (locs1 : List Loc), gG D cl tys A s ws' H1 locs1 → W p l e R s m args below meth c H1 locs1 cells slots Q (F0 m (pc + 3) ls (r.toList ++ rest))) : W p l e R s m args below meth c H locs cells slots Q (F0 m pc ls (As.reverse ++ .ref b :: rest)) := by
  refine g_call hG (va_runVN (C := y.cls) (As := As) (rest := rest) (n := As.length) ⟨hx, hb, hml, hown, hts⟩ hM ⟨va_cnB As.length hts (gT_in hcode) rfl rfl rfl (hN _ hl) (hts _ hini) hd hR, hts _ hin, hts _ hse⟩ ⟨g_blind, ?_, g_pre (av := .ref b :: As) hN hG⟩ rfl rfl hsz rfl (lv_room hW) hdg hf) kk
  exact va_recv hG.1 hG.2.1 hc he
/-- invokestatic, own or public -/
theorem g_callS (hM : gM l y bytes maxL ret fr lo D cl tys A ws As r ws') (hx : p.tables.exec = Jvm.exec) (hb : c.code = cc) (hml : c.maxLocals = nL) (hown : s.vm.findClass own = some m.cls) (hts : ∀ w ∈ gT, w.before args s = true) (hN : gN s) (hG : gG D cl tys A s ws H locs)
    (hl : Cond.methodLink own index y ∈ gT) (hst : Cond.static y ∈ gT) (hini : Cond.initialized y.cls ∈ gT) (hcode : Cond.code y bytes maxL ret ∈ gT) (hd : g_nm y As.length) (hR : fr + 1 ≤ R.frames ∧ 8 + (maxL + 11) + lo ≤ R.locals)
    (hsz : ls.size = nL) (hW : (rest.map fun v => v.category).sum ≤ 8) (hdg : decode cc pc = .ok (.invokestatic index, 3)) (hf : cells ≤ R.cells ∧ slots ≤ R.slots)
    (kk : ∀ (H1 : Heap) (locs1 : List Loc), gG D cl tys A s ws' H1 locs1 → W p l e R s m args below meth c H1 locs1 cells slots Q (F0 m (pc + 3) ls (r.toList ++ rest))) : W p l e R s m args below meth c H locs cells slots Q (F0 m pc ls (As.reverse ++ rest)) := by
  exact g_call hG (va_runS (As := As) (rest := rest) (n := As.length) ⟨hx, hb, hml, hown, hts⟩ hM ⟨callB_of As.length hts (gT_in hcode) rfl rfl rfl (hts _ hini) (hts _ hl) hd hR, hts _ hst⟩ ⟨g_blind, g_pre (av := As) hN hG⟩ rfl rfl hsz rfl (lv_room hW) hdg hf) kk
/-- invokestatic, a nest mate's own method -/
theorem g_callSN (hM : gM l y bytes maxL ret fr lo D cl tys A ws As r ws') (hx : p.tables.exec = Jvm.exec) (hb : c.code = cc) (hml : c.maxLocals = nL) (hown : s.vm.findClass own = some m.cls) (hts : ∀ w ∈ gT, w.before args s = true) (hN : gN s) (hG : gG D cl tys A s ws H locs)
    (hl : Cond.methodLinkNest own index y host ∈ gNw) (hst : Cond.static y ∈ gT) (hini : Cond.initialized y.cls ∈ gT) (hcode : Cond.code y bytes maxL ret ∈ gT) (hd : g_nm y As.length) (hR : fr + 1 ≤ R.frames ∧ 8 + (maxL + 11) + lo ≤ R.locals)
    (hsz : ls.size = nL) (hW : (rest.map fun v => v.category).sum ≤ 8) (hdg : decode cc pc = .ok (.invokestatic index, 3)) (hf : cells ≤ R.cells ∧ slots ≤ R.slots)
    (kk : ∀ (H1 : Heap) (locs1 : List Loc), gG D cl tys A s ws' H1 locs1 → W p l e R s m args below meth c H1 locs1 cells slots Q (F0 m (pc + 3) ls (r.toList ++ rest))) : W p l e R s m args below meth c H locs cells slots Q (F0 m pc ls (As.reverse ++ rest)) := by
  exact g_call hG (va_runSN (As := As) (rest := rest) (n := As.length) ⟨hx, hb, hml, hown, hts⟩ hM ⟨va_cnB As.length hts (gT_in hcode) rfl rfl rfl (hN _ hl) (hts _ hini) hd hR, hts _ hst, trivial⟩ ⟨g_blind, g_pre (av := As) hN hG⟩ rfl rfl hsz rfl (lv_room hW) hdg hf) kk
/-- getfield of an own or public field, of a nest mate's -/
theorem g_get {k : Nat} {v : Value} {C ref : String} (hx : p.tables.exec = Jvm.exec) (hb : c.code = cc) (hown : s.vm.findClass own = some m.cls) (hts : ∀ w ∈ gT, w.before args s = true) (hG : gG D cl tys A s ws H locs) (hin : ∀ w ∈ u_ws C T0 N0, w ∈ gT) (hc : cl[ci]? = some (C, T0, N0)) (he : ws[q0]? = some (b, .inr (ci, fs))) (hk : k < N0)
    (hl : Cond.fieldLink own index ref (T0 k).2.1 (T0 k).2.2.1 ∈ gT) (hsm : (T0 k).1 = ref) (hv : fs[k]? = some v) (hdg : decode cc pc = .ok (.getfield index, 3))
    (kk : W p l e R s m args below meth c H locs cells slots Q (F0 m (pc + 3) ls (v :: rest))) : W p l e R s m args below meth c H locs cells slots Q (F0 m pc ls (.ref b :: rest)) :=
  va_get hx hb hts hin hown hG.1 hG.2.1 q0 he hc k hk (hts _ hl) (fun _ h => by rw [← hsm]; exact h) hv hdg kk
theorem g_getN {k : Nat} {v : Value} {C ref : String} (hx : p.tables.exec = Jvm.exec) (hb : c.code = cc) (hown : s.vm.findClass own = some m.cls) (hts : ∀ w ∈ gT, w.before args s = true) (hN : gN s) (hG : gG D cl tys A s ws H locs) (hin : ∀ w ∈ u_ws C T0 N0, w ∈ gT) (hc : cl[ci]? = some (C, T0, N0)) (he : ws[q0]? = some (b, .inr (ci, fs))) (hk : k < N0)
    (hl : Cond.fieldLinkNest own index ref (T0 k).2.1 (T0 k).2.2.1 host ∈ gNw) (hsm : (T0 k).1 = ref) (hv : fs[k]? = some v) (hdg : decode cc pc = .ok (.getfield index, 3))
    (kk : W p l e R s m args below meth c H locs cells slots Q (F0 m (pc + 3) ls (v :: rest))) : W p l e R s m args below meth c H locs cells slots Q (F0 m pc ls (.ref b :: rest)) :=
  va_getN hx hb hts hin hown hG.1 hG.2.1 q0 he hc k hk (va_Nw.use rfl (hN _ hl)) (fun _ h => by rw [← hsm]; exact h) hv hdg kk
theorem g_put {k : Nat} {v : Value} {C ref : String} {ty : FieldType} (ty0 : Nat → FieldType) (hty : ∀ k, k < N0 → parseFieldDescriptor (T0 k).2.2.1 = some (ty0 k)) (hnm : ∀ a, a < N0 → ∀ b, b < N0 → a ≠ b → (T0 a).2.1 ≠ (T0 b).2.1) (hx : p.tables.exec = Jvm.exec) (hb : c.code = cc) (hown : s.vm.findClass own = some m.cls) (hts : ∀ w ∈ gT, w.before args s = true) (hG : gG D cl tys A s ws H locs) (hin : ∀ w ∈ u_ws C T0 N0, w ∈ gT) (hc : cl[ci]? = some (C, T0, N0)) (he : ws[q0]? = some (b, .inr (ci, fs))) (hk : k < N0)
    (hl : Cond.fieldLink own index ref (T0 k).2.1 (T0 k).2.2.1 ∈ gT) (hsm : (T0 k).1 = ref) (hfin : (T0 k).2.2.2 = false) (hd : parseFieldDescriptor (T0 k).2.2.1 = some ty) (hn : narrow ty v = v) (hfit : fits ty v = true) (hlen : k < fs.length) (hw : ws.set q0 (b, .inr (ci, fs.set k v)) = ws') (hdg : decode cc pc = .ok (.putfield index, 3))
    (kk : ∀ (H1 : Heap) (locs1 : List Loc), gG D cl tys A s ws' H1 locs1 → W p l e R s m args below meth c H1 locs1 cells slots Q (F0 m (pc + 3) ls rest)) : W p l e R s m args below meth c H locs cells slots Q (F0 m pc ls (v :: .ref b :: rest)) := by
  obtain ⟨hK, hP, hD, hS⟩ := hG
  subst hw
  exact va_put hx hb hts hin ty0 hty hnm hown hK hP hD hS q0 he hc k hk (hts _ hl) (fun _ h => by rw [← hsm]; exact h) hfin hd hn hfit hlen hdg (fun H1 locs1 a1 a2 a3 => kk H1 locs1 ⟨hK, a1, a2, a3⟩)
theorem g_putN {k : Nat} {v : Value} {C ref : String} {ty : FieldType} (ty0 : Nat → FieldType) (hty : ∀ k, k < N0 → parseFieldDescriptor (T0 k).2.2.1 = some (ty0 k)) (hnm : ∀ a, a < N0 → ∀ b, b < N0 → a ≠ b → (T0 a).2.1 ≠ (T0 b).2.1) (hx : p.tables.exec = Jvm.exec) (hb : c.code = cc) (hown : s.vm.findClass own = some m.cls) (hts : ∀ w ∈ gT, w.before args s = true) (hN : gN s) (hG : gG D cl tys A s ws H locs) (hin : ∀ w ∈ u_ws C T0 N0, w ∈ gT) (hc : cl[ci]? = some (C, T0, N0)) (he : ws[q0]? = some (b, .inr (ci, fs))) (hk : k < N0)
    (hl : Cond.fieldLinkNest own index ref (T0 k).2.1 (T0 k).2.2.1 host ∈ gNw) (hsm : (T0 k).1 = ref) (hfin : (T0 k).2.2.2 = false) (hd : parseFieldDescriptor (T0 k).2.2.1 = some ty) (hn : narrow ty v = v) (hfit : fits ty v = true) (hlen : k < fs.length) (hw : ws.set q0 (b, .inr (ci, fs.set k v)) = ws') (hdg : decode cc pc = .ok (.putfield index, 3))
    (kk : ∀ (H1 : Heap) (locs1 : List Loc), gG D cl tys A s ws' H1 locs1 → W p l e R s m args below meth c H1 locs1 cells slots Q (F0 m (pc + 3) ls rest)) : W p l e R s m args below meth c H locs cells slots Q (F0 m pc ls (v :: .ref b :: rest)) := by
  obtain ⟨hK, hP, hD, hS⟩ := hG
  subst hw
  exact va_putN hx hb hts hin ty0 hty hnm hown hK hP hD hS q0 he hc k hk (va_Nw.use rfl (hN _ hl)) (fun _ h => by rw [← hsm]; exact h) hfin hd hn hfit hlen hdg (fun H1 locs1 a1 a2 a3 => kk H1 locs1 ⟨hK, a1, a2, a3⟩)
/-- int arrays at a natural place -/
theorem g_iald {t0 n i : Nat} {cA : ClassId} {f : Nat → Int32} (hx : p.tables.exec = Jvm.exec) (hb : c.code = cc) (hG : gG D cl tys A s ws H locs) (ha : ws[q0]? = some (b, .inl (cA, n, .inl f))) (ht : tys[t0]? = some (cA, .int)) (hi : i < n) (hn : n < 2 ^ 31) (hdg : decode cc pc = .ok (.iaload, 1))
    (kk : W p l e R s m args below meth c H locs cells slots Q (F0 m (pc + 1) ls (.int (f i) :: rest))) : W p l e R s m args below meth c H locs cells slots Q (F0 m pc ls (.int (nI i) :: .ref b :: rest)) := by
  refine va_iald hx hb hG.1 hG.2.1 q0 t0 ha ht (vp_in_nI hi hn) hdg ?_
  rw [nI_clamp (Nat.lt_trans hi hn)]
  exact kk
theorem g_zald {t0 n i : Nat} {cA : ClassId} {f : Nat → Int32} (hx : p.tables.exec = Jvm.exec) (hb : c.code = cc) (hG : gG D cl tys A s ws H locs) (ha : ws[q0]? = some (b, .inl (cA, n, .inl f))) (ht : tys[t0]? = some (cA, .boolean)) (hi : i < n) (hn : n < 2 ^ 31) (hdg : decode cc pc = .ok (.baload, 1))
    (kk : W p l e R s m args below meth c H locs cells slots Q (F0 m (pc + 1) ls (.int (f i) :: rest))) : W p l e R s m args below meth c H locs cells slots Q (F0 m pc ls (.int (nI i) :: .ref b :: rest)) := by
  refine va_zald hx hb hG.1 hG.2.1 q0 t0 ha ht (vp_in_nI hi hn) hdg ?_
  rw [nI_clamp (Nat.lt_trans hi hn)]
  exact kk
theorem g_aald {t0 n i : Nat} {cA : ClassId} {C : String} {f : Nat → Option Nat} {x : Nat} (hx : p.tables.exec = Jvm.exec) (hb : c.code = cc) (hG : gG D cl tys A s ws H locs) (ha : ws[q0]? = some (b, .inl (cA, n, .inr (.inr (.inr (.inr f)))))) (ht : tys[t0]? = some (cA, .object C)) (hi : i < n) (hn : n < 2 ^ 31) (hf : f i = some x) (hdg : decode cc pc = .ok (.aaload, 1))
    (kk : W p l e R s m args below meth c H locs cells slots Q (F0 m (pc + 1) ls (.ref x :: rest))) : W p l e R s m args below meth c H locs cells slots Q (F0 m pc ls (.int (nI i) :: .ref b :: rest)) := by
  refine va_aldq hx hb hG.1 hG.2.1 q0 t0 ha ht (vp_in_nI hi hn) hdg ?_
  rw [nI_clamp (Nat.lt_trans hi hn), hf]
  exact kk
theorem g_iast {t0 n i : Nat} {cA : ClassId} {f : Nat → Int32} {x : Int32} (hx : p.tables.exec = Jvm.exec) (hb : c.code = cc) (hG : gG D cl tys A s ws H locs) (ha : ws[q0]? = some (b, .inl (cA, n, .inl f))) (ht : tys[t0]? = some (cA, .int)) (hi : i < n) (hn : n < 2 ^ 31) (hw : ws.set q0 (b, .inl (cA, n, .inl (upd f i x))) = ws') (hdg : decode cc pc = .ok (.iastore, 1))
    (kk : ∀ (H1 : Heap) (locs1 : List Loc), gG D cl tys A s ws' H1 locs1 → W p l e R s m args below meth c H1 locs1 cells slots Q (F0 m (pc + 1) ls rest)) : W p l e R s m args below meth c H locs cells slots Q (F0 m pc ls (.int x :: .int (nI i) :: .ref b :: rest)) := by
  obtain ⟨hK, hP, hD, hS⟩ := hG
  refine va_iast hx hb hK hP hD hS q0 t0 ha ht (vp_in_nI hi hn) hdg (fun H1 locs1 a1 a2 a3 => ?_)
  rw [nI_clamp (Nat.lt_trans hi hn), hw] at a1 a2
  exact kk H1 locs1 ⟨hK, a1, a2, a3⟩
/-- a join: the same frame with another list of locals -/
theorem g_top {x y : Int32} (h : x = y) (kk : W p l e R s m args below meth c H locs cells slots Q (F0 m pc ls (.int y :: rest))) : W p l e R s m args below meth c H locs cells slots Q (F0 m pc ls (.int x :: rest)) := by
  rw [h]; exact kk
theorem g_topl {x y : Int64} (h : x = y) (kk : W p l e R s m args below meth c H locs cells slots Q (F0 m pc ls (.long y :: rest))) : W p l e R s m args below meth c H locs cells slots Q (F0 m pc ls (.long x :: rest)) := by
  rw [h]; exact kk
end GL
end
section
theorem t_0 : Cond.initialized RL ∈ gT := gT_mem (List.mem_append_right _ (List.mem_append_left _ (List.mem_of_getElem? (i := 0) rfl))) rfl
theorem t_1 : Cond.initialized RX2 ∈ gT := gT_mem (List.mem_append_right _ (List.mem_append_left _ (List.mem_of_getElem? (i := 1) rfl))) rfl
theorem t_2 : Cond.initialized RX0 ∈ gT := gT_mem (List.mem_append_right _ (List.mem_append_left _ (List.mem_of_getElem? (i := 2) rfl))) rfl
theorem t_3 : Cond.initialized RX1 ∈ gT := gT_mem (List.mem_append_right _ (List.mem_append_left _ (List.mem_of_getElem? (i := 3) rfl))) rfl
theorem t_4 : Cond.initialized RX3 ∈ gT := gT_mem (List.mem_append_right _ (List.mem_append_left _ (List.mem_of_getElem? (i := 4) rfl))) rfl
theorem t_5 : Cond.initialized RJ13 ∈ gT := gT_mem (List.mem_append_right _ (List.mem_append_left _ (List.mem_of_getElem? (i := 5) rfl))) rfl
theorem t_6 : Cond.classLink RL 7 RX2 ∈ gT := gT_mem (List.mem_append_right _ (List.mem_append_left _ (List.mem_of_getElem? (i := 6) rfl))) rfl
theorem t_7 : Cond.instantiable RX2 4 ∈ gT := gT_mem (List.mem_append_right _ (List.mem_append_left _ (List.mem_of_getElem? (i := 7) rfl))) rfl
theorem t_8 : Cond.methodLink RL 9 yX2_init ∈ gT := gT_mem (List.mem_append_right _ (List.mem_append_left _ (List.mem_of_getElem? (i := 8) rfl))) rfl
theorem t_9 : Cond.instanceMethod yX2_init ∈ gT := gT_mem (List.mem_append_right _ (List.mem_append_left _ (List.mem_of_getElem? (i := 9) rfl))) rfl
theorem t_10 : Cond.code yX2_init cX2_init 2 none ∈ gT := gT_mem (List.mem_append_right _ (List.mem_append_left _ (List.mem_of_getElem? (i := 10) rfl))) rfl
theorem t_11 : Cond.methodLink RX2 1 objectInit ∈ gT := gT_mem (List.mem_append_right _ (List.mem_append_left _ (List.mem_of_getElem? (i := 11) rfl))) rfl
theorem t_12 : Cond.instanceMethod objectInit ∈ gT := gT_mem (List.mem_append_right _ (List.mem_append_left _ (List.mem_of_getElem? (i := 12) rfl))) rfl
theorem t_13 : Cond.code objectInit ⟨#[0xb1]⟩ 1 none ∈ gT := gT_mem (List.mem_append_right _ (List.mem_append_left _ (List.mem_of_getElem? (i := 13) rfl))) rfl
theorem t_14 : Cond.classLink RX2 9 RX0 ∈ gT := gT_mem (List.mem_append_right _ (List.mem_append_left _ (List.mem_of_getElem? (i := 14) rfl))) rfl
theorem t_15 : Cond.arrayOver (.object RX0) ∈ lw_tbl := List.mem_append_right _ (List.mem_append_left _ (List.mem_of_getElem? (i := 15) rfl))
theorem t_16 : Cond.instantiable RX0 4 ∈ gT := gT_mem (List.mem_append_right _ (List.mem_append_left _ (List.mem_of_getElem? (i := 16) rfl))) rfl
theorem t_17 : Cond.methodLinkNest RX2 15 yX0_init RX2 ∈ gNw := gN_mem (List.mem_append_right _ (List.mem_append_left _ (List.mem_of_getElem? (i := 17) rfl))) rfl
theorem t_18 : Cond.instanceMethod yX0_init ∈ gT := gT_mem (List.mem_append_right _ (List.mem_append_left _ (List.mem_of_getElem? (i := 18) rfl))) rfl
theorem t_19 : Cond.code yX0_init cX0_init 1 none ∈ gT := gT_mem (List.mem_append_right _ (List.mem_append_left _ (List.mem_of_getElem? (i := 19) rfl))) rfl
theorem t_20 : Cond.methodLink RX0 3 objectInit ∈ gT := gT_mem (List.mem_append_right _ (List.mem_append_left _ (List.mem_of_getElem? (i := 20) rfl))) rfl
theorem t_21 : Cond.fieldLinkNest RX2 34 RX0 "runs" "Z" RX2 ∈ gNw := gN_mem (List.mem_append_right _ (List.mem_append_left _ (List.mem_of_getElem? (i := 21) rfl))) rfl
theorem t_22 : Cond.fieldLink RX0 18 RX0 "mapped" "J" ∈ gT := gT_mem (List.mem_append_right _ (List.mem_append_left _ (List.mem_of_getElem? (i := 22) rfl))) rfl
theorem t_23 : Cond.fieldLinkNest RX2 102 RX0 "mapped" "J" RX2 ∈ gNw := gN_mem (List.mem_append_right _ (List.mem_append_left _ (List.mem_of_getElem? (i := 23) rfl))) rfl
theorem t_24 : Cond.fieldLink RX0 9 RX0 "frames" "[I" ∈ gT := gT_mem (List.mem_append_right _ (List.mem_append_left _ (List.mem_of_getElem? (i := 24) rfl))) rfl
theorem t_25 : Cond.fieldLinkNest RX2 78 RX0 "frames" "[I" RX2 ∈ gNw := gN_mem (List.mem_append_right _ (List.mem_append_left _ (List.mem_of_getElem? (i := 25) rfl))) rfl
theorem t_26 : Cond.fieldLink RX0 15 RX0 "kinds" "[I" ∈ gT := gT_mem (List.mem_append_right _ (List.mem_append_left _ (List.mem_of_getElem? (i := 26) rfl))) rfl
theorem t_27 : Cond.fieldLinkNest RX2 114 RX0 "kinds" "[I" RX2 ∈ gNw := gN_mem (List.mem_append_right _ (List.mem_append_left _ (List.mem_of_getElem? (i := 27) rfl))) rfl
theorem t_37 : Cond.arrayClass .int ∈ gT := gT_mem (List.mem_append_right _ (List.mem_append_left _ (List.mem_of_getElem? (i := 37) rfl))) rfl
theorem t_38 : Cond.classLink RX2 16 RX1 ∈ gT := gT_mem (List.mem_append_right _ (List.mem_append_left _ (List.mem_of_getElem? (i := 38) rfl))) rfl
theorem t_39 : Cond.instantiable RX1 2 ∈ gT := gT_mem (List.mem_append_right _ (List.mem_append_left _ (List.mem_of_getElem? (i := 39) rfl))) rfl
theorem t_40 : Cond.methodLinkNest RX2 18 yX1_init RX2 ∈ gNw := gN_mem (List.mem_append_right _ (List.mem_append_left _ (List.mem_of_getElem? (i := 40) rfl))) rfl
theorem t_41 : Cond.instanceMethod yX1_init ∈ gT := gT_mem (List.mem_append_right _ (List.mem_append_left _ (List.mem_of_getElem? (i := 41) rfl))) rfl
theorem t_42 : Cond.code yX1_init cX1_init 1 none ∈ gT := gT_mem (List.mem_append_right _ (List.mem_append_left _ (List.mem_of_getElem? (i := 42) rfl))) rfl
theorem t_43 : Cond.methodLink RX1 3 objectInit ∈ gT := gT_mem (List.mem_append_right _ (List.mem_append_left _ (List.mem_of_getElem? (i := 43) rfl))) rfl
theorem t_44 : Cond.fieldLink RX1 9 RX1 "words" "[I" ∈ gT := gT_mem (List.mem_append_right _ (List.mem_append_left _ (List.mem_of_getElem? (i := 44) rfl))) rfl
theorem t_45 : Cond.fieldLinkNest RX2 97 RX1 "words" "[I" RX2 ∈ gNw := gN_mem (List.mem_append_right _ (List.mem_append_left _ (List.mem_of_getElem? (i := 45) rfl))) rfl
theorem t_46 : Cond.fieldLink RX1 15 RX1 "counts" "[I" ∈ gT := gT_mem (List.mem_append_right _ (List.mem_append_left _ (List.mem_of_getElem? (i := 46) rfl))) rfl
theorem t_47 : Cond.fieldLinkNest RX2 111 RX1 "counts" "[I" RX2 ∈ gNw := gN_mem (List.mem_append_right _ (List.mem_append_left _ (List.mem_of_getElem? (i := 47) rfl))) rfl
theorem t_53 : Cond.fieldLink RX2 11 RX2 "spaces" "[LForkedPages$Space;" ∈ gT := gT_mem (List.mem_append_right _ (List.mem_append_left _ (List.mem_of_getElem? (i := 53) rfl))) rfl
theorem t_54 : Cond.fieldLink RX2 19 RX2 "store" "LForkedPages$Store;" ∈ gT := gT_mem (List.mem_append_right _ (List.mem_append_left _ (List.mem_of_getElem? (i := 54) rfl))) rfl
theorem t_55 : Cond.fieldLink RX2 121 RX2 "allFaults" "I" ∈ gT := gT_mem (List.mem_append_right _ (List.mem_append_left _ (List.mem_of_getElem? (i := 55) rfl))) rfl
theorem t_56 : Cond.fieldLink RX2 117 RX2 "copyFaults" "I" ∈ gT := gT_mem (List.mem_append_right _ (List.mem_append_left _ (List.mem_of_getElem? (i := 56) rfl))) rfl
theorem t_66 : Cond.methodLink RL 13 yX2_spawn ∈ gT := gT_mem (List.mem_append_right _ (List.mem_append_left _ (List.mem_of_getElem? (i := 66) rfl))) rfl
theorem t_67 : Cond.instanceMethod yX2_spawn ∈ gT := gT_mem (List.mem_append_right _ (List.mem_append_left _ (List.mem_of_getElem? (i := 67) rfl))) rfl
theorem t_68 : Cond.selects RX2 yX2_spawn yX2_spawn ∈ gT := gT_mem (List.mem_append_right _ (List.mem_append_left _ (List.mem_of_getElem? (i := 68) rfl))) rfl
theorem t_69 : Cond.code yX2_spawn cX2_spawn 2 (some .int) ∈ gT := gT_mem (List.mem_append_right _ (List.mem_append_left _ (List.mem_of_getElem? (i := 69) rfl))) rfl
theorem t_70 : Cond.methodLink RX2 23 yX2_leastIdle ∈ gT := gT_mem (List.mem_append_right _ (List.mem_append_left _ (List.mem_of_getElem? (i := 70) rfl))) rfl
theorem t_72 : Cond.instanceMethod yX2_leastIdle ∈ gT := gT_mem (List.mem_append_right _ (List.mem_append_left _ (List.mem_of_getElem? (i := 72) rfl))) rfl
theorem t_73 : Cond.code yX2_leastIdle cX2_leastIdle 2 (some .int) ∈ gT := gT_mem (List.mem_append_right _ (List.mem_append_left _ (List.mem_of_getElem? (i := 73) rfl))) rfl
theorem t_74 : Cond.methodLink RX2 27 yX2_freeFrames ∈ gT := gT_mem (List.mem_append_right _ (List.mem_append_left _ (List.mem_of_getElem? (i := 74) rfl))) rfl
theorem t_76 : Cond.instanceMethod yX2_freeFrames ∈ gT := gT_mem (List.mem_append_right _ (List.mem_append_left _ (List.mem_of_getElem? (i := 76) rfl))) rfl
theorem t_77 : Cond.code yX2_freeFrames cX2_freeFrames 3 (some .int) ∈ gT := gT_mem (List.mem_append_right _ (List.mem_append_left _ (List.mem_of_getElem? (i := 77) rfl))) rfl
theorem t_78 : Cond.methodLinkNest RX2 124 yX1_usedFrames RX2 ∈ gNw := gN_mem (List.mem_append_right _ (List.mem_append_left _ (List.mem_of_getElem? (i := 78) rfl))) rfl
theorem t_80 : Cond.instanceMethod yX1_usedFrames ∈ gT := gT_mem (List.mem_append_right _ (List.mem_append_left _ (List.mem_of_getElem? (i := 80) rfl))) rfl
theorem t_81 : Cond.code yX1_usedFrames cX1_usedFrames 3 (some .int) ∈ gT := gT_mem (List.mem_append_right _ (List.mem_append_left _ (List.mem_of_getElem? (i := 81) rfl))) rfl
theorem t_82 : Cond.methodLinkNest RX2 42 yX0_tableCount RX2 ∈ gNw := gN_mem (List.mem_append_right _ (List.mem_append_left _ (List.mem_of_getElem? (i := 82) rfl))) rfl
theorem t_84 : Cond.instanceMethod yX0_tableCount ∈ gT := gT_mem (List.mem_append_right _ (List.mem_append_left _ (List.mem_of_getElem? (i := 84) rfl))) rfl
theorem t_85 : Cond.code yX0_tableCount cX0_tableCount 1 (some .int) ∈ gT := gT_mem (List.mem_append_right _ (List.mem_append_left _ (List.mem_of_getElem? (i := 85) rfl))) rfl
theorem t_86 : Cond.methodLink RX0 24 yX0_tablesFor ∈ gT := gT_mem (List.mem_append_right _ (List.mem_append_left _ (List.mem_of_getElem? (i := 86) rfl))) rfl
theorem t_87 : Cond.static yX0_tablesFor ∈ gT := gT_mem (List.mem_append_right _ (List.mem_append_left _ (List.mem_of_getElem? (i := 87) rfl))) rfl
theorem t_88 : Cond.code yX0_tablesFor cX0_tablesFor 2 (some .int) ∈ gT := gT_mem (List.mem_append_right _ (List.mem_append_left _ (List.mem_of_getElem? (i := 88) rfl))) rfl
theorem t_89 : Cond.methodLink RX0 28 yX0_spansUsed ∈ gT := gT_mem (List.mem_append_right _ (List.mem_append_left _ (List.mem_of_getElem? (i := 89) rfl))) rfl
theorem t_90 : Cond.static yX0_spansUsed ∈ gT := gT_mem (List.mem_append_right _ (List.mem_append_left _ (List.mem_of_getElem? (i := 90) rfl))) rfl
theorem t_91 : Cond.code yX0_spansUsed cX0_spansUsed 8 (some .int) ∈ gT := gT_mem (List.mem_append_right _ (List.mem_append_left _ (List.mem_of_getElem? (i := 91) rfl))) rfl
theorem t_92 : Cond.methodLinkNest RX2 30 yX0_tablesFor RX2 ∈ gNw := gN_mem (List.mem_append_right _ (List.mem_append_left _ (List.mem_of_getElem? (i := 92) rfl))) rfl
theorem t_93 : Cond.methodLink RL 18 yX2_fork ∈ gT := gT_mem (List.mem_append_right _ (List.mem_append_left _ (List.mem_of_getElem? (i := 93) rfl))) rfl
theorem t_94 : Cond.instanceMethod yX2_fork ∈ gT := gT_mem (List.mem_append_right _ (List.mem_append_left _ (List.mem_of_getElem? (i := 94) rfl))) rfl
theorem t_95 : Cond.selects RX2 yX2_fork yX2_fork ∈ gT := gT_mem (List.mem_append_right _ (List.mem_append_left _ (List.mem_of_getElem? (i := 95) rfl))) rfl
theorem t_96 : Cond.code yX2_fork cX2_fork 6 (some .int) ∈ gT := gT_mem (List.mem_append_right _ (List.mem_append_left _ (List.mem_of_getElem? (i := 96) rfl))) rfl
theorem t_97 : Cond.methodLink RX2 38 yX2_isRunning ∈ gT := gT_mem (List.mem_append_right _ (List.mem_append_left _ (List.mem_of_getElem? (i := 97) rfl))) rfl
theorem t_99 : Cond.instanceMethod yX2_isRunning ∈ gT := gT_mem (List.mem_append_right _ (List.mem_append_left _ (List.mem_of_getElem? (i := 99) rfl))) rfl
theorem t_100 : Cond.code yX2_isRunning cX2_isRunning 2 (some .boolean) ∈ gT := gT_mem (List.mem_append_right _ (List.mem_append_left _ (List.mem_of_getElem? (i := 100) rfl))) rfl
theorem t_101 : Cond.methodLinkNest RX2 45 yX0_has RX2 ∈ gNw := gN_mem (List.mem_append_right _ (List.mem_append_left _ (List.mem_of_getElem? (i := 101) rfl))) rfl
theorem t_103 : Cond.instanceMethod yX0_has ∈ gT := gT_mem (List.mem_append_right _ (List.mem_append_left _ (List.mem_of_getElem? (i := 103) rfl))) rfl
theorem t_104 : Cond.code yX0_has cX0_has 2 (some .boolean) ∈ gT := gT_mem (List.mem_append_right _ (List.mem_append_left _ (List.mem_of_getElem? (i := 104) rfl))) rfl
theorem t_105 : Cond.methodLink RX2 48 yX2_sharePage ∈ gT := gT_mem (List.mem_append_right _ (List.mem_append_left _ (List.mem_of_getElem? (i := 105) rfl))) rfl
theorem t_107 : Cond.instanceMethod yX2_sharePage ∈ gT := gT_mem (List.mem_append_right _ (List.mem_append_left _ (List.mem_of_getElem? (i := 107) rfl))) rfl
theorem t_108 : Cond.code yX2_sharePage cX2_sharePage 4 none ∈ gT := gT_mem (List.mem_append_right _ (List.mem_append_left _ (List.mem_of_getElem? (i := 108) rfl))) rfl
theorem t_109 : Cond.methodLinkNest RX2 74 yX0_is RX2 ∈ gNw := gN_mem (List.mem_append_right _ (List.mem_append_left _ (List.mem_of_getElem? (i := 109) rfl))) rfl
theorem t_111 : Cond.instanceMethod yX0_is ∈ gT := gT_mem (List.mem_append_right _ (List.mem_append_left _ (List.mem_of_getElem? (i := 111) rfl))) rfl
theorem t_112 : Cond.code yX0_is cX0_is 3 (some .boolean) ∈ gT := gT_mem (List.mem_append_right _ (List.mem_append_left _ (List.mem_of_getElem? (i := 112) rfl))) rfl
theorem t_113 : Cond.methodLinkNest RX2 86 yX0_turn RX2 ∈ gNw := gN_mem (List.mem_append_right _ (List.mem_append_left _ (List.mem_of_getElem? (i := 113) rfl))) rfl
theorem t_115 : Cond.instanceMethod yX0_turn ∈ gT := gT_mem (List.mem_append_right _ (List.mem_append_left _ (List.mem_of_getElem? (i := 115) rfl))) rfl
theorem t_116 : Cond.code yX0_turn cX0_turn 3 none ∈ gT := gT_mem (List.mem_append_right _ (List.mem_append_left _ (List.mem_of_getElem? (i := 116) rfl))) rfl
theorem t_117 : Cond.methodLink RX2 70 yX2_startMapping ∈ gT := gT_mem (List.mem_append_right _ (List.mem_append_left _ (List.mem_of_getElem? (i := 117) rfl))) rfl
theorem t_119 : Cond.instanceMethod yX2_startMapping ∈ gT := gT_mem (List.mem_append_right _ (List.mem_append_left _ (List.mem_of_getElem? (i := 119) rfl))) rfl
theorem t_120 : Cond.code yX2_startMapping cX2_startMapping 5 none ∈ gT := gT_mem (List.mem_append_right _ (List.mem_append_left _ (List.mem_of_getElem? (i := 120) rfl))) rfl
theorem t_121 : Cond.methodLinkNest RX2 127 yX0_set RX2 ∈ gNw := gN_mem (List.mem_append_right _ (List.mem_append_left _ (List.mem_of_getElem? (i := 121) rfl))) rfl
theorem t_123 : Cond.instanceMethod yX0_set ∈ gT := gT_mem (List.mem_append_right _ (List.mem_append_left _ (List.mem_of_getElem? (i := 123) rfl))) rfl
theorem t_124 : Cond.code yX0_set cX0_set 4 none ∈ gT := gT_mem (List.mem_append_right _ (List.mem_append_left _ (List.mem_of_getElem? (i := 124) rfl))) rfl
theorem t_125 : Cond.methodLink RL 23 yX2_exit ∈ gT := gT_mem (List.mem_append_right _ (List.mem_append_left _ (List.mem_of_getElem? (i := 125) rfl))) rfl
theorem t_126 : Cond.instanceMethod yX2_exit ∈ gT := gT_mem (List.mem_append_right _ (List.mem_append_left _ (List.mem_of_getElem? (i := 126) rfl))) rfl
theorem t_127 : Cond.selects RX2 yX2_exit yX2_exit ∈ gT := gT_mem (List.mem_append_right _ (List.mem_append_left _ (List.mem_of_getElem? (i := 127) rfl))) rfl
theorem t_128 : Cond.code yX2_exit cX2_exit 5 (some .int) ∈ gT := gT_mem (List.mem_append_right _ (List.mem_append_left _ (List.mem_of_getElem? (i := 128) rfl))) rfl
theorem t_129 : Cond.methodLink RX2 52 yX2_endMapping ∈ gT := gT_mem (List.mem_append_right _ (List.mem_append_left _ (List.mem_of_getElem? (i := 129) rfl))) rfl
theorem t_131 : Cond.instanceMethod yX2_endMapping ∈ gT := gT_mem (List.mem_append_right _ (List.mem_append_left _ (List.mem_of_getElem? (i := 131) rfl))) rfl
theorem t_132 : Cond.code yX2_endMapping cX2_endMapping 3 none ∈ gT := gT_mem (List.mem_append_right _ (List.mem_append_left _ (List.mem_of_getElem? (i := 132) rfl))) rfl
theorem t_133 : Cond.methodLinkNest RX2 131 yX0_clear RX2 ∈ gNw := gN_mem (List.mem_append_right _ (List.mem_append_left _ (List.mem_of_getElem? (i := 133) rfl))) rfl
theorem t_135 : Cond.instanceMethod yX0_clear ∈ gT := gT_mem (List.mem_append_right _ (List.mem_append_left _ (List.mem_of_getElem? (i := 135) rfl))) rfl
theorem t_136 : Cond.code yX0_clear cX0_clear 2 none ∈ gT := gT_mem (List.mem_append_right _ (List.mem_append_left _ (List.mem_of_getElem? (i := 136) rfl))) rfl
theorem t_137 : Cond.constantLong RX0 22 (-1) ∈ gT := gT_mem (List.mem_append_right _ (List.mem_append_left _ (List.mem_of_getElem? (i := 137) rfl))) rfl
theorem t_138 : Cond.methodLink RL 27 yX2_map ∈ gT := gT_mem (List.mem_append_right _ (List.mem_append_left _ (List.mem_of_getElem? (i := 138) rfl))) rfl
theorem t_139 : Cond.instanceMethod yX2_map ∈ gT := gT_mem (List.mem_append_right _ (List.mem_append_left _ (List.mem_of_getElem? (i := 139) rfl))) rfl
theorem t_140 : Cond.selects RX2 yX2_map yX2_map ∈ gT := gT_mem (List.mem_append_right _ (List.mem_append_left _ (List.mem_of_getElem? (i := 140) rfl))) rfl
theorem t_141 : Cond.code yX2_map cX2_map 7 (some .int) ∈ gT := gT_mem (List.mem_append_right _ (List.mem_append_left _ (List.mem_of_getElem? (i := 141) rfl))) rfl
theorem t_142 : Cond.methodLink RX2 56 yX2_isPage ∈ gT := gT_mem (List.mem_append_right _ (List.mem_append_left _ (List.mem_of_getElem? (i := 142) rfl))) rfl
theorem t_143 : Cond.static yX2_isPage ∈ gT := gT_mem (List.mem_append_right _ (List.mem_append_left _ (List.mem_of_getElem? (i := 143) rfl))) rfl
theorem t_144 : Cond.code yX2_isPage cX2_isPage 1 (some .boolean) ∈ gT := gT_mem (List.mem_append_right _ (List.mem_append_left _ (List.mem_of_getElem? (i := 144) rfl))) rfl
theorem t_145 : Cond.methodLinkNest RX2 59 yX0_tablesToAdd RX2 ∈ gNw := gN_mem (List.mem_append_right _ (List.mem_append_left _ (List.mem_of_getElem? (i := 145) rfl))) rfl
theorem t_147 : Cond.instanceMethod yX0_tablesToAdd ∈ gT := gT_mem (List.mem_append_right _ (List.mem_append_left _ (List.mem_of_getElem? (i := 147) rfl))) rfl
theorem t_148 : Cond.code yX0_tablesToAdd cX0_tablesToAdd 2 (some .int) ∈ gT := gT_mem (List.mem_append_right _ (List.mem_append_left _ (List.mem_of_getElem? (i := 148) rfl))) rfl
theorem t_149 : Cond.methodLinkNest RX2 63 yX1_unusedFrame RX2 ∈ gNw := gN_mem (List.mem_append_right _ (List.mem_append_left _ (List.mem_of_getElem? (i := 149) rfl))) rfl
theorem t_151 : Cond.instanceMethod yX1_unusedFrame ∈ gT := gT_mem (List.mem_append_right _ (List.mem_append_left _ (List.mem_of_getElem? (i := 151) rfl))) rfl
theorem t_152 : Cond.code yX1_unusedFrame cX1_unusedFrame 3 (some .int) ∈ gT := gT_mem (List.mem_append_right _ (List.mem_append_left _ (List.mem_of_getElem? (i := 152) rfl))) rfl
theorem t_153 : Cond.methodLinkNest RX2 66 yX1_blank RX2 ∈ gNw := gN_mem (List.mem_append_right _ (List.mem_append_left _ (List.mem_of_getElem? (i := 153) rfl))) rfl
theorem t_155 : Cond.instanceMethod yX1_blank ∈ gT := gT_mem (List.mem_append_right _ (List.mem_append_left _ (List.mem_of_getElem? (i := 155) rfl))) rfl
theorem t_156 : Cond.code yX1_blank cX1_blank 3 none ∈ gT := gT_mem (List.mem_append_right _ (List.mem_append_left _ (List.mem_of_getElem? (i := 156) rfl))) rfl
theorem t_157 : Cond.methodLink RL 32 yX2_attach ∈ gT := gT_mem (List.mem_append_right _ (List.mem_append_left _ (List.mem_of_getElem? (i := 157) rfl))) rfl
theorem t_158 : Cond.instanceMethod yX2_attach ∈ gT := gT_mem (List.mem_append_right _ (List.mem_append_left _ (List.mem_of_getElem? (i := 158) rfl))) rfl
theorem t_159 : Cond.selects RX2 yX2_attach yX2_attach ∈ gT := gT_mem (List.mem_append_right _ (List.mem_append_left _ (List.mem_of_getElem? (i := 159) rfl))) rfl
theorem t_160 : Cond.code yX2_attach cX2_attach 9 (some .int) ∈ gT := gT_mem (List.mem_append_right _ (List.mem_append_left _ (List.mem_of_getElem? (i := 160) rfl))) rfl
theorem t_161 : Cond.methodLink RL 37 yX2_unmap ∈ gT := gT_mem (List.mem_append_right _ (List.mem_append_left _ (List.mem_of_getElem? (i := 161) rfl))) rfl
theorem t_162 : Cond.instanceMethod yX2_unmap ∈ gT := gT_mem (List.mem_append_right _ (List.mem_append_left _ (List.mem_of_getElem? (i := 162) rfl))) rfl
theorem t_163 : Cond.selects RX2 yX2_unmap yX2_unmap ∈ gT := gT_mem (List.mem_append_right _ (List.mem_append_left _ (List.mem_of_getElem? (i := 163) rfl))) rfl
theorem t_164 : Cond.code yX2_unmap cX2_unmap 5 (some .int) ∈ gT := gT_mem (List.mem_append_right _ (List.mem_append_left _ (List.mem_of_getElem? (i := 164) rfl))) rfl
theorem t_165 : Cond.methodLink RX2 82 yX2_refusalOfMapped ∈ gT := gT_mem (List.mem_append_right _ (List.mem_append_left _ (List.mem_of_getElem? (i := 165) rfl))) rfl
theorem t_167 : Cond.instanceMethod yX2_refusalOfMapped ∈ gT := gT_mem (List.mem_append_right _ (List.mem_append_left _ (List.mem_of_getElem? (i := 167) rfl))) rfl
theorem t_168 : Cond.code yX2_refusalOfMapped cX2_refusalOfMapped 3 (some .int) ∈ gT := gT_mem (List.mem_append_right _ (List.mem_append_left _ (List.mem_of_getElem? (i := 168) rfl))) rfl
theorem t_169 : Cond.methodLink RL 42 yX2_protect ∈ gT := gT_mem (List.mem_append_right _ (List.mem_append_left _ (List.mem_of_getElem? (i := 169) rfl))) rfl
theorem t_170 : Cond.instanceMethod yX2_protect ∈ gT := gT_mem (List.mem_append_right _ (List.mem_append_left _ (List.mem_of_getElem? (i := 170) rfl))) rfl
theorem t_171 : Cond.selects RX2 yX2_protect yX2_protect ∈ gT := gT_mem (List.mem_append_right _ (List.mem_append_left _ (List.mem_of_getElem? (i := 171) rfl))) rfl
theorem t_172 : Cond.code yX2_protect cX2_protect 6 (some .int) ∈ gT := gT_mem (List.mem_append_right _ (List.mem_append_left _ (List.mem_of_getElem? (i := 172) rfl))) rfl
theorem t_173 : Cond.methodLink RL 46 yX2_write ∈ gT := gT_mem (List.mem_append_right _ (List.mem_append_left _ (List.mem_of_getElem? (i := 173) rfl))) rfl
theorem t_174 : Cond.instanceMethod yX2_write ∈ gT := gT_mem (List.mem_append_right _ (List.mem_append_left _ (List.mem_of_getElem? (i := 174) rfl))) rfl
theorem t_175 : Cond.selects RX2 yX2_write yX2_write ∈ gT := gT_mem (List.mem_append_right _ (List.mem_append_left _ (List.mem_of_getElem? (i := 175) rfl))) rfl
theorem t_176 : Cond.code yX2_write cX2_write 8 (some .int) ∈ gT := gT_mem (List.mem_append_right _ (List.mem_append_left _ (List.mem_of_getElem? (i := 176) rfl))) rfl
theorem t_177 : Cond.methodLink RX2 90 yX2_refusalOfAddress ∈ gT := gT_mem (List.mem_append_right _ (List.mem_append_left _ (List.mem_of_getElem? (i := 177) rfl))) rfl
theorem t_179 : Cond.instanceMethod yX2_refusalOfAddress ∈ gT := gT_mem (List.mem_append_right _ (List.mem_append_left _ (List.mem_of_getElem? (i := 179) rfl))) rfl
theorem t_180 : Cond.code yX2_refusalOfAddress cX2_refusalOfAddress 3 (some .int) ∈ gT := gT_mem (List.mem_append_right _ (List.mem_append_left _ (List.mem_of_getElem? (i := 180) rfl))) rfl
theorem t_181 : Cond.methodLink RX2 93 yX2_resolveFault ∈ gT := gT_mem (List.mem_append_right _ (List.mem_append_left _ (List.mem_of_getElem? (i := 181) rfl))) rfl
theorem t_183 : Cond.instanceMethod yX2_resolveFault ∈ gT := gT_mem (List.mem_append_right _ (List.mem_append_left _ (List.mem_of_getElem? (i := 183) rfl))) rfl
theorem t_184 : Cond.code yX2_resolveFault cX2_resolveFault 7 (some .int) ∈ gT := gT_mem (List.mem_append_right _ (List.mem_append_left _ (List.mem_of_getElem? (i := 184) rfl))) rfl
theorem t_185 : Cond.methodLinkNest RX2 134 yX1_copy RX2 ∈ gNw := gN_mem (List.mem_append_right _ (List.mem_append_left _ (List.mem_of_getElem? (i := 185) rfl))) rfl
theorem t_187 : Cond.instanceMethod yX1_copy ∈ gT := gT_mem (List.mem_append_right _ (List.mem_append_left _ (List.mem_of_getElem? (i := 187) rfl))) rfl
theorem t_188 : Cond.code yX1_copy cX1_copy 4 none ∈ gT := gT_mem (List.mem_append_right _ (List.mem_append_left _ (List.mem_of_getElem? (i := 188) rfl))) rfl
theorem t_189 : Cond.methodLink RL 51 yX2_read ∈ gT := gT_mem (List.mem_append_right _ (List.mem_append_left _ (List.mem_of_getElem? (i := 189) rfl))) rfl
theorem t_190 : Cond.instanceMethod yX2_read ∈ gT := gT_mem (List.mem_append_right _ (List.mem_append_left _ (List.mem_of_getElem? (i := 190) rfl))) rfl
theorem t_191 : Cond.selects RX2 yX2_read yX2_read ∈ gT := gT_mem (List.mem_append_right _ (List.mem_append_left _ (List.mem_of_getElem? (i := 191) rfl))) rfl
theorem t_192 : Cond.code yX2_read cX2_read 4 (some .long) ∈ gT := gT_mem (List.mem_append_right _ (List.mem_append_left _ (List.mem_of_getElem? (i := 192) rfl))) rfl
theorem t_193 : Cond.constantLong RX2 100 (1099511627776) ∈ gT := gT_mem (List.mem_append_right _ (List.mem_append_left _ (List.mem_of_getElem? (i := 193) rfl))) rfl
theorem t_194 : Cond.methodLink RL 56 yX2_free ∈ gT := gT_mem (List.mem_append_right _ (List.mem_append_left _ (List.mem_of_getElem? (i := 194) rfl))) rfl
theorem t_195 : Cond.instanceMethod yX2_free ∈ gT := gT_mem (List.mem_append_right _ (List.mem_append_left _ (List.mem_of_getElem? (i := 195) rfl))) rfl
theorem t_196 : Cond.selects RX2 yX2_free yX2_free ∈ gT := gT_mem (List.mem_append_right _ (List.mem_append_left _ (List.mem_of_getElem? (i := 196) rfl))) rfl
theorem t_197 : Cond.code yX2_free cX2_free 1 (some .int) ∈ gT := gT_mem (List.mem_append_right _ (List.mem_append_left _ (List.mem_of_getElem? (i := 197) rfl))) rfl
theorem t_198 : Cond.methodLink RL 60 yX2_tables ∈ gT := gT_mem (List.mem_append_right _ (List.mem_append_left _ (List.mem_of_getElem? (i := 198) rfl))) rfl
theorem t_199 : Cond.instanceMethod yX2_tables ∈ gT := gT_mem (List.mem_append_right _ (List.mem_append_left _ (List.mem_of_getElem? (i := 199) rfl))) rfl
theorem t_200 : Cond.selects RX2 yX2_tables yX2_tables ∈ gT := gT_mem (List.mem_append_right _ (List.mem_append_left _ (List.mem_of_getElem? (i := 200) rfl))) rfl
theorem t_201 : Cond.code yX2_tables cX2_tables 2 (some .int) ∈ gT := gT_mem (List.mem_append_right _ (List.mem_append_left _ (List.mem_of_getElem? (i := 201) rfl))) rfl
theorem t_202 : Cond.methodLink RL 64 yX2_pages ∈ gT := gT_mem (List.mem_append_right _ (List.mem_append_left _ (List.mem_of_getElem? (i := 202) rfl))) rfl
theorem t_203 : Cond.instanceMethod yX2_pages ∈ gT := gT_mem (List.mem_append_right _ (List.mem_append_left _ (List.mem_of_getElem? (i := 203) rfl))) rfl
theorem t_204 : Cond.selects RX2 yX2_pages yX2_pages ∈ gT := gT_mem (List.mem_append_right _ (List.mem_append_left _ (List.mem_of_getElem? (i := 204) rfl))) rfl
theorem t_205 : Cond.code yX2_pages cX2_pages 2 (some .int) ∈ gT := gT_mem (List.mem_append_right _ (List.mem_append_left _ (List.mem_of_getElem? (i := 205) rfl))) rfl
theorem t_206 : Cond.methodLink RX2 106 yJ13_bitCount_95d88 ∈ gT := gT_mem (List.mem_append_right _ (List.mem_append_left _ (List.mem_of_getElem? (i := 206) rfl))) rfl
theorem t_207 : Cond.static yJ13_bitCount_95d88 ∈ gT := gT_mem (List.mem_append_right _ (List.mem_append_left _ (List.mem_of_getElem? (i := 207) rfl))) rfl
theorem t_208 : Cond.code yJ13_bitCount_95d88 cJ13_bitCount_95d88 2 (some .int) ∈ gT := gT_mem (List.mem_append_right _ (List.mem_append_left _ (List.mem_of_getElem? (i := 208) rfl))) rfl
theorem t_209 : Cond.constantLong RJ13 314 (6148914691236517205) ∈ gT := gT_mem (List.mem_append_right _ (List.mem_append_left _ (List.mem_of_getElem? (i := 209) rfl))) rfl
theorem t_210 : Cond.constantLong RJ13 316 (3689348814741910323) ∈ gT := gT_mem (List.mem_append_right _ (List.mem_append_left _ (List.mem_of_getElem? (i := 210) rfl))) rfl
theorem t_211 : Cond.constantLong RJ13 318 (1085102592571150095) ∈ gT := gT_mem (List.mem_append_right _ (List.mem_append_left _ (List.mem_of_getElem? (i := 211) rfl))) rfl
theorem t_212 : Cond.methodLink RL 68 yX2_count ∈ gT := gT_mem (List.mem_append_right _ (List.mem_append_left _ (List.mem_of_getElem? (i := 212) rfl))) rfl
theorem t_213 : Cond.instanceMethod yX2_count ∈ gT := gT_mem (List.mem_append_right _ (List.mem_append_left _ (List.mem_of_getElem? (i := 213) rfl))) rfl
theorem t_214 : Cond.selects RX2 yX2_count yX2_count ∈ gT := gT_mem (List.mem_append_right _ (List.mem_append_left _ (List.mem_of_getElem? (i := 214) rfl))) rfl
theorem t_215 : Cond.code yX2_count cX2_count 4 (some .int) ∈ gT := gT_mem (List.mem_append_right _ (List.mem_append_left _ (List.mem_of_getElem? (i := 215) rfl))) rfl
theorem t_216 : Cond.methodLink RL 72 yX2_mapping ∈ gT := gT_mem (List.mem_append_right _ (List.mem_append_left _ (List.mem_of_getElem? (i := 216) rfl))) rfl
theorem t_217 : Cond.instanceMethod yX2_mapping ∈ gT := gT_mem (List.mem_append_right _ (List.mem_append_left _ (List.mem_of_getElem? (i := 217) rfl))) rfl
theorem t_218 : Cond.selects RX2 yX2_mapping yX2_mapping ∈ gT := gT_mem (List.mem_append_right _ (List.mem_append_left _ (List.mem_of_getElem? (i := 218) rfl))) rfl
theorem t_219 : Cond.code yX2_mapping cX2_mapping 4 (some .int) ∈ gT := gT_mem (List.mem_append_right _ (List.mem_append_left _ (List.mem_of_getElem? (i := 219) rfl))) rfl
theorem t_220 : Cond.methodLink RL 76 yX2_twin ∈ gT := gT_mem (List.mem_append_right _ (List.mem_append_left _ (List.mem_of_getElem? (i := 220) rfl))) rfl
theorem t_221 : Cond.instanceMethod yX2_twin ∈ gT := gT_mem (List.mem_append_right _ (List.mem_append_left _ (List.mem_of_getElem? (i := 221) rfl))) rfl
theorem t_222 : Cond.selects RX2 yX2_twin yX2_twin ∈ gT := gT_mem (List.mem_append_right _ (List.mem_append_left _ (List.mem_of_getElem? (i := 222) rfl))) rfl
theorem t_223 : Cond.code yX2_twin cX2_twin 9 (some .int) ∈ gT := gT_mem (List.mem_append_right _ (List.mem_append_left _ (List.mem_of_getElem? (i := 223) rfl))) rfl
theorem t_224 : Cond.methodLink RL 80 yX2_running ∈ gT := gT_mem (List.mem_append_right _ (List.mem_append_left _ (List.mem_of_getElem? (i := 224) rfl))) rfl
theorem t_225 : Cond.instanceMethod yX2_running ∈ gT := gT_mem (List.mem_append_right _ (List.mem_append_left _ (List.mem_of_getElem? (i := 225) rfl))) rfl
theorem t_226 : Cond.selects RX2 yX2_running yX2_running ∈ gT := gT_mem (List.mem_append_right _ (List.mem_append_left _ (List.mem_of_getElem? (i := 226) rfl))) rfl
theorem t_227 : Cond.code yX2_running cX2_running 3 (some .int) ∈ gT := gT_mem (List.mem_append_right _ (List.mem_append_left _ (List.mem_of_getElem? (i := 227) rfl))) rfl
theorem t_228 : Cond.methodLink RL 84 yX2_faults ∈ gT := gT_mem (List.mem_append_right _ (List.mem_append_left _ (List.mem_of_getElem? (i := 228) rfl))) rfl
theorem t_229 : Cond.instanceMethod yX2_faults ∈ gT := gT_mem (List.mem_append_right _ (List.mem_append_left _ (List.mem_of_getElem? (i := 229) rfl))) rfl
theorem t_230 : Cond.selects RX2 yX2_faults yX2_faults ∈ gT := gT_mem (List.mem_append_right _ (List.mem_append_left _ (List.mem_of_getElem? (i := 230) rfl))) rfl
theorem t_231 : Cond.code yX2_faults cX2_faults 2 (some .int) ∈ gT := gT_mem (List.mem_append_right _ (List.mem_append_left _ (List.mem_of_getElem? (i := 231) rfl))) rfl
theorem t_232 : Cond.classLink RL 10 RX3 ∈ gT := gT_mem (List.mem_append_right _ (List.mem_append_left _ (List.mem_of_getElem? (i := 232) rfl))) rfl
theorem t_233 : Cond.instantiable RX3 8 ∈ gT := gT_mem (List.mem_append_right _ (List.mem_append_left _ (List.mem_of_getElem? (i := 233) rfl))) rfl
theorem t_234 : Cond.methodLink RL 12 yX3_init ∈ gT := gT_mem (List.mem_append_right _ (List.mem_append_left _ (List.mem_of_getElem? (i := 234) rfl))) rfl
theorem t_235 : Cond.instanceMethod yX3_init ∈ gT := gT_mem (List.mem_append_right _ (List.mem_append_left _ (List.mem_of_getElem? (i := 235) rfl))) rfl
theorem t_236 : Cond.code yX3_init cX3_init 1 none ∈ gT := gT_mem (List.mem_append_right _ (List.mem_append_left _ (List.mem_of_getElem? (i := 236) rfl))) rfl
theorem t_237 : Cond.methodLink RX3 1 objectInit ∈ gT := gT_mem (List.mem_append_right _ (List.mem_append_left _ (List.mem_of_getElem? (i := 237) rfl))) rfl
theorem t_238 : Cond.fieldLink RX3 7 RX3 "runs" "[Z" ∈ gT := gT_mem (List.mem_append_right _ (List.mem_append_left _ (List.mem_of_getElem? (i := 238) rfl))) rfl
theorem t_239 : Cond.fieldLink RX3 13 RX3 "frame" "[I" ∈ gT := gT_mem (List.mem_append_right _ (List.mem_append_left _ (List.mem_of_getElem? (i := 239) rfl))) rfl
theorem t_240 : Cond.fieldLink RX3 17 RX3 "common" "[Z" ∈ gT := gT_mem (List.mem_append_right _ (List.mem_append_right _ (List.mem_of_getElem? (i := 0) rfl))) rfl
theorem t_241 : Cond.fieldLink RX3 20 RX3 "writable" "[Z" ∈ gT := gT_mem (List.mem_append_right _ (List.mem_append_right _ (List.mem_of_getElem? (i := 1) rfl))) rfl
theorem t_242 : Cond.fieldLink RX3 23 RX3 "marked" "[Z" ∈ gT := gT_mem (List.mem_append_right _ (List.mem_append_right _ (List.mem_of_getElem? (i := 2) rfl))) rfl
theorem t_243 : Cond.fieldLink RX3 26 RX3 "words" "[I" ∈ gT := gT_mem (List.mem_append_right _ (List.mem_append_right _ (List.mem_of_getElem? (i := 3) rfl))) rfl
theorem t_244 : Cond.fieldLink RX3 75 RX3 "faultCount" "I" ∈ gT := gT_mem (List.mem_append_right _ (List.mem_append_right _ (List.mem_of_getElem? (i := 4) rfl))) rfl
theorem t_245 : Cond.fieldLink RX3 71 RX3 "copyCount" "I" ∈ gT := gT_mem (List.mem_append_right _ (List.mem_append_right _ (List.mem_of_getElem? (i := 5) rfl))) rfl
theorem t_263 : Cond.arrayClass .boolean ∈ gT := gT_mem (List.mem_append_right _ (List.mem_append_right _ (List.mem_of_getElem? (i := 23) rfl))) rfl
theorem t_264 : Cond.methodLink RL 59 yX3_free ∈ gT := gT_mem (List.mem_append_right _ (List.mem_append_right _ (List.mem_of_getElem? (i := 24) rfl))) rfl
theorem t_265 : Cond.instanceMethod yX3_free ∈ gT := gT_mem (List.mem_append_right _ (List.mem_append_right _ (List.mem_of_getElem? (i := 25) rfl))) rfl
theorem t_266 : Cond.selects RX3 yX3_free yX3_free ∈ gT := gT_mem (List.mem_append_right _ (List.mem_append_right _ (List.mem_of_getElem? (i := 26) rfl))) rfl
theorem t_267 : Cond.code yX3_free cX3_free 3 (some .int) ∈ gT := gT_mem (List.mem_append_right _ (List.mem_append_right _ (List.mem_of_getElem? (i := 27) rfl))) rfl
theorem t_268 : Cond.methodLink RX3 33 yX3_leads ∈ gT := gT_mem (List.mem_append_right _ (List.mem_append_right _ (List.mem_of_getElem? (i := 28) rfl))) rfl
theorem t_270 : Cond.instanceMethod yX3_leads ∈ gT := gT_mem (List.mem_append_right _ (List.mem_append_right _ (List.mem_of_getElem? (i := 30) rfl))) rfl
theorem t_271 : Cond.code yX3_leads cX3_leads 4 (some .int) ∈ gT := gT_mem (List.mem_append_right _ (List.mem_append_right _ (List.mem_of_getElem? (i := 31) rfl))) rfl
theorem t_272 : Cond.methodLink RX3 37 yX3_tablesOf ∈ gT := gT_mem (List.mem_append_right _ (List.mem_append_right _ (List.mem_of_getElem? (i := 32) rfl))) rfl
theorem t_274 : Cond.instanceMethod yX3_tablesOf ∈ gT := gT_mem (List.mem_append_right _ (List.mem_append_right _ (List.mem_of_getElem? (i := 34) rfl))) rfl
theorem t_275 : Cond.code yX3_tablesOf cX3_tablesOf 4 (some .int) ∈ gT := gT_mem (List.mem_append_right _ (List.mem_append_right _ (List.mem_of_getElem? (i := 35) rfl))) rfl
theorem t_276 : Cond.methodLink RX3 29 yX3_some ∈ gT := gT_mem (List.mem_append_right _ (List.mem_append_right _ (List.mem_of_getElem? (i := 36) rfl))) rfl
theorem t_278 : Cond.instanceMethod yX3_some ∈ gT := gT_mem (List.mem_append_right _ (List.mem_append_right _ (List.mem_of_getElem? (i := 38) rfl))) rfl
theorem t_279 : Cond.code yX3_some cX3_some 6 (some .boolean) ∈ gT := gT_mem (List.mem_append_right _ (List.mem_append_right _ (List.mem_of_getElem? (i := 39) rfl))) rfl
theorem t_280 : Cond.methodLink RL 17 yX3_spawn ∈ gT := gT_mem (List.mem_append_right _ (List.mem_append_right _ (List.mem_of_getElem? (i := 40) rfl))) rfl
theorem t_281 : Cond.instanceMethod yX3_spawn ∈ gT := gT_mem (List.mem_append_right _ (List.mem_append_right _ (List.mem_of_getElem? (i := 41) rfl))) rfl
theorem t_282 : Cond.selects RX3 yX3_spawn yX3_spawn ∈ gT := gT_mem (List.mem_append_right _ (List.mem_append_right _ (List.mem_of_getElem? (i := 42) rfl))) rfl
theorem t_283 : Cond.code yX3_spawn cX3_spawn 2 (some .int) ∈ gT := gT_mem (List.mem_append_right _ (List.mem_append_right _ (List.mem_of_getElem? (i := 43) rfl))) rfl
theorem t_284 : Cond.methodLink RX3 40 yX3_idle ∈ gT := gT_mem (List.mem_append_right _ (List.mem_append_right _ (List.mem_of_getElem? (i := 44) rfl))) rfl
theorem t_286 : Cond.instanceMethod yX3_idle ∈ gT := gT_mem (List.mem_append_right _ (List.mem_append_right _ (List.mem_of_getElem? (i := 46) rfl))) rfl
theorem t_287 : Cond.code yX3_idle cX3_idle 2 (some .int) ∈ gT := gT_mem (List.mem_append_right _ (List.mem_append_right _ (List.mem_of_getElem? (i := 47) rfl))) rfl
theorem t_288 : Cond.methodLink RX3 44 yX3_free ∈ gT := gT_mem (List.mem_append_right _ (List.mem_append_right _ (List.mem_of_getElem? (i := 48) rfl))) rfl
theorem t_289 : Cond.methodLink RL 22 yX3_fork ∈ gT := gT_mem (List.mem_append_right _ (List.mem_append_right _ (List.mem_of_getElem? (i := 49) rfl))) rfl
theorem t_290 : Cond.instanceMethod yX3_fork ∈ gT := gT_mem (List.mem_append_right _ (List.mem_append_right _ (List.mem_of_getElem? (i := 50) rfl))) rfl
theorem t_291 : Cond.selects RX3 yX3_fork yX3_fork ∈ gT := gT_mem (List.mem_append_right _ (List.mem_append_right _ (List.mem_of_getElem? (i := 51) rfl))) rfl
theorem t_292 : Cond.code yX3_fork cX3_fork 6 (some .int) ∈ gT := gT_mem (List.mem_append_right _ (List.mem_append_right _ (List.mem_of_getElem? (i := 52) rfl))) rfl
theorem t_293 : Cond.methodLink RX3 47 yX3_away ∈ gT := gT_mem (List.mem_append_right _ (List.mem_append_right _ (List.mem_of_getElem? (i := 53) rfl))) rfl
theorem t_295 : Cond.instanceMethod yX3_away ∈ gT := gT_mem (List.mem_append_right _ (List.mem_append_right _ (List.mem_of_getElem? (i := 55) rfl))) rfl
theorem t_296 : Cond.code yX3_away cX3_away 2 (some .boolean) ∈ gT := gT_mem (List.mem_append_right _ (List.mem_append_right _ (List.mem_of_getElem? (i := 56) rfl))) rfl
theorem t_297 : Cond.methodLink RL 26 yX3_exit ∈ gT := gT_mem (List.mem_append_right _ (List.mem_append_right _ (List.mem_of_getElem? (i := 57) rfl))) rfl
theorem t_298 : Cond.instanceMethod yX3_exit ∈ gT := gT_mem (List.mem_append_right _ (List.mem_append_right _ (List.mem_of_getElem? (i := 58) rfl))) rfl
theorem t_299 : Cond.selects RX3 yX3_exit yX3_exit ∈ gT := gT_mem (List.mem_append_right _ (List.mem_append_right _ (List.mem_of_getElem? (i := 59) rfl))) rfl
theorem t_300 : Cond.code yX3_exit cX3_exit 4 (some .int) ∈ gT := gT_mem (List.mem_append_right _ (List.mem_append_right _ (List.mem_of_getElem? (i := 60) rfl))) rfl
theorem t_301 : Cond.methodLink RX3 51 yX3_clear ∈ gT := gT_mem (List.mem_append_right _ (List.mem_append_right _ (List.mem_of_getElem? (i := 61) rfl))) rfl
theorem t_303 : Cond.instanceMethod yX3_clear ∈ gT := gT_mem (List.mem_append_right _ (List.mem_append_right _ (List.mem_of_getElem? (i := 63) rfl))) rfl
theorem t_304 : Cond.code yX3_clear cX3_clear 2 none ∈ gT := gT_mem (List.mem_append_right _ (List.mem_append_right _ (List.mem_of_getElem? (i := 64) rfl))) rfl
theorem t_305 : Cond.methodLink RL 31 yX3_map ∈ gT := gT_mem (List.mem_append_right _ (List.mem_append_right _ (List.mem_of_getElem? (i := 65) rfl))) rfl
theorem t_306 : Cond.instanceMethod yX3_map ∈ gT := gT_mem (List.mem_append_right _ (List.mem_append_right _ (List.mem_of_getElem? (i := 66) rfl))) rfl
theorem t_307 : Cond.selects RX3 yX3_map yX3_map ∈ gT := gT_mem (List.mem_append_right _ (List.mem_append_right _ (List.mem_of_getElem? (i := 67) rfl))) rfl
theorem t_308 : Cond.code yX3_map cX3_map 8 (some .int) ∈ gT := gT_mem (List.mem_append_right _ (List.mem_append_right _ (List.mem_of_getElem? (i := 68) rfl))) rfl
theorem t_309 : Cond.methodLink RX3 55 yX3_isPage ∈ gT := gT_mem (List.mem_append_right _ (List.mem_append_right _ (List.mem_of_getElem? (i := 69) rfl))) rfl
theorem t_310 : Cond.static yX3_isPage ∈ gT := gT_mem (List.mem_append_right _ (List.mem_append_right _ (List.mem_of_getElem? (i := 70) rfl))) rfl
theorem t_311 : Cond.code yX3_isPage cX3_isPage 1 (some .boolean) ∈ gT := gT_mem (List.mem_append_right _ (List.mem_append_right _ (List.mem_of_getElem? (i := 71) rfl))) rfl
theorem t_312 : Cond.methodLink RX3 58 yX3_more ∈ gT := gT_mem (List.mem_append_right _ (List.mem_append_right _ (List.mem_of_getElem? (i := 72) rfl))) rfl
theorem t_314 : Cond.instanceMethod yX3_more ∈ gT := gT_mem (List.mem_append_right _ (List.mem_append_right _ (List.mem_of_getElem? (i := 74) rfl))) rfl
theorem t_315 : Cond.code yX3_more cX3_more 3 (some .int) ∈ gT := gT_mem (List.mem_append_right _ (List.mem_append_right _ (List.mem_of_getElem? (i := 75) rfl))) rfl
theorem t_316 : Cond.methodLink RX3 62 yX3_unused ∈ gT := gT_mem (List.mem_append_right _ (List.mem_append_right _ (List.mem_of_getElem? (i := 76) rfl))) rfl
theorem t_318 : Cond.instanceMethod yX3_unused ∈ gT := gT_mem (List.mem_append_right _ (List.mem_append_right _ (List.mem_of_getElem? (i := 78) rfl))) rfl
theorem t_319 : Cond.code yX3_unused cX3_unused 2 (some .int) ∈ gT := gT_mem (List.mem_append_right _ (List.mem_append_right _ (List.mem_of_getElem? (i := 79) rfl))) rfl
theorem t_320 : Cond.methodLink RL 36 yX3_attach ∈ gT := gT_mem (List.mem_append_right _ (List.mem_append_right _ (List.mem_of_getElem? (i := 80) rfl))) rfl
theorem t_321 : Cond.instanceMethod yX3_attach ∈ gT := gT_mem (List.mem_append_right _ (List.mem_append_right _ (List.mem_of_getElem? (i := 81) rfl))) rfl
theorem t_322 : Cond.selects RX3 yX3_attach yX3_attach ∈ gT := gT_mem (List.mem_append_right _ (List.mem_append_right _ (List.mem_of_getElem? (i := 82) rfl))) rfl
theorem t_323 : Cond.code yX3_attach cX3_attach 8 (some .int) ∈ gT := gT_mem (List.mem_append_right _ (List.mem_append_right _ (List.mem_of_getElem? (i := 83) rfl))) rfl
theorem t_324 : Cond.methodLink RL 41 yX3_unmap ∈ gT := gT_mem (List.mem_append_right _ (List.mem_append_right _ (List.mem_of_getElem? (i := 84) rfl))) rfl
theorem t_325 : Cond.instanceMethod yX3_unmap ∈ gT := gT_mem (List.mem_append_right _ (List.mem_append_right _ (List.mem_of_getElem? (i := 85) rfl))) rfl
theorem t_326 : Cond.selects RX3 yX3_unmap yX3_unmap ∈ gT := gT_mem (List.mem_append_right _ (List.mem_append_right _ (List.mem_of_getElem? (i := 86) rfl))) rfl
theorem t_327 : Cond.code yX3_unmap cX3_unmap 5 (some .int) ∈ gT := gT_mem (List.mem_append_right _ (List.mem_append_right _ (List.mem_of_getElem? (i := 87) rfl))) rfl
theorem t_328 : Cond.methodLink RX3 65 yX3_bar ∈ gT := gT_mem (List.mem_append_right _ (List.mem_append_right _ (List.mem_of_getElem? (i := 88) rfl))) rfl
theorem t_330 : Cond.instanceMethod yX3_bar ∈ gT := gT_mem (List.mem_append_right _ (List.mem_append_right _ (List.mem_of_getElem? (i := 90) rfl))) rfl
theorem t_331 : Cond.code yX3_bar cX3_bar 3 (some .int) ∈ gT := gT_mem (List.mem_append_right _ (List.mem_append_right _ (List.mem_of_getElem? (i := 91) rfl))) rfl
theorem t_332 : Cond.methodLink RL 45 yX3_protect ∈ gT := gT_mem (List.mem_append_right _ (List.mem_append_right _ (List.mem_of_getElem? (i := 92) rfl))) rfl
theorem t_333 : Cond.instanceMethod yX3_protect ∈ gT := gT_mem (List.mem_append_right _ (List.mem_append_right _ (List.mem_of_getElem? (i := 93) rfl))) rfl
theorem t_334 : Cond.selects RX3 yX3_protect yX3_protect ∈ gT := gT_mem (List.mem_append_right _ (List.mem_append_right _ (List.mem_of_getElem? (i := 94) rfl))) rfl
theorem t_335 : Cond.code yX3_protect cX3_protect 6 (some .int) ∈ gT := gT_mem (List.mem_append_right _ (List.mem_append_right _ (List.mem_of_getElem? (i := 95) rfl))) rfl
theorem t_336 : Cond.methodLink RL 50 yX3_write ∈ gT := gT_mem (List.mem_append_right _ (List.mem_append_right _ (List.mem_of_getElem? (i := 96) rfl))) rfl
theorem t_337 : Cond.instanceMethod yX3_write ∈ gT := gT_mem (List.mem_append_right _ (List.mem_append_right _ (List.mem_of_getElem? (i := 97) rfl))) rfl
theorem t_338 : Cond.selects RX3 yX3_write yX3_write ∈ gT := gT_mem (List.mem_append_right _ (List.mem_append_right _ (List.mem_of_getElem? (i := 98) rfl))) rfl
theorem t_339 : Cond.code yX3_write cX3_write 12 (some .int) ∈ gT := gT_mem (List.mem_append_right _ (List.mem_append_right _ (List.mem_of_getElem? (i := 99) rfl))) rfl
theorem t_340 : Cond.methodLink RX3 68 yX3_pageOf ∈ gT := gT_mem (List.mem_append_right _ (List.mem_append_right _ (List.mem_of_getElem? (i := 100) rfl))) rfl
theorem t_341 : Cond.static yX3_pageOf ∈ gT := gT_mem (List.mem_append_right _ (List.mem_append_right _ (List.mem_of_getElem? (i := 101) rfl))) rfl
theorem t_342 : Cond.code yX3_pageOf cX3_pageOf 1 (some .int) ∈ gT := gT_mem (List.mem_append_right _ (List.mem_append_right _ (List.mem_of_getElem? (i := 102) rfl))) rfl
theorem t_343 : Cond.methodLink RL 55 yX3_read ∈ gT := gT_mem (List.mem_append_right _ (List.mem_append_right _ (List.mem_of_getElem? (i := 103) rfl))) rfl
theorem t_344 : Cond.instanceMethod yX3_read ∈ gT := gT_mem (List.mem_append_right _ (List.mem_append_right _ (List.mem_of_getElem? (i := 104) rfl))) rfl
theorem t_345 : Cond.selects RX3 yX3_read yX3_read ∈ gT := gT_mem (List.mem_append_right _ (List.mem_append_right _ (List.mem_of_getElem? (i := 105) rfl))) rfl
theorem t_346 : Cond.code yX3_read cX3_read 4 (some .long) ∈ gT := gT_mem (List.mem_append_right _ (List.mem_append_right _ (List.mem_of_getElem? (i := 106) rfl))) rfl
theorem t_347 : Cond.constantLong RX3 78 (1099511627776) ∈ gT := gT_mem (List.mem_append_right _ (List.mem_append_right _ (List.mem_of_getElem? (i := 107) rfl))) rfl
theorem t_348 : Cond.methodLink RL 63 yX3_tables ∈ gT := gT_mem (List.mem_append_right _ (List.mem_append_right _ (List.mem_of_getElem? (i := 108) rfl))) rfl
theorem t_349 : Cond.instanceMethod yX3_tables ∈ gT := gT_mem (List.mem_append_right _ (List.mem_append_right _ (List.mem_of_getElem? (i := 109) rfl))) rfl
theorem t_350 : Cond.selects RX3 yX3_tables yX3_tables ∈ gT := gT_mem (List.mem_append_right _ (List.mem_append_right _ (List.mem_of_getElem? (i := 110) rfl))) rfl
theorem t_351 : Cond.code yX3_tables cX3_tables 2 (some .int) ∈ gT := gT_mem (List.mem_append_right _ (List.mem_append_right _ (List.mem_of_getElem? (i := 111) rfl))) rfl
theorem t_352 : Cond.methodLink RL 67 yX3_pages ∈ gT := gT_mem (List.mem_append_right _ (List.mem_append_right _ (List.mem_of_getElem? (i := 112) rfl))) rfl
theorem t_353 : Cond.instanceMethod yX3_pages ∈ gT := gT_mem (List.mem_append_right _ (List.mem_append_right _ (List.mem_of_getElem? (i := 113) rfl))) rfl
theorem t_354 : Cond.selects RX3 yX3_pages yX3_pages ∈ gT := gT_mem (List.mem_append_right _ (List.mem_append_right _ (List.mem_of_getElem? (i := 114) rfl))) rfl
theorem t_355 : Cond.code yX3_pages cX3_pages 4 (some .int) ∈ gT := gT_mem (List.mem_append_right _ (List.mem_append_right _ (List.mem_of_getElem? (i := 115) rfl))) rfl
theorem t_356 : Cond.methodLink RL 71 yX3_count ∈ gT := gT_mem (List.mem_append_right _ (List.mem_append_right _ (List.mem_of_getElem? (i := 116) rfl))) rfl
theorem t_357 : Cond.instanceMethod yX3_count ∈ gT := gT_mem (List.mem_append_right _ (List.mem_append_right _ (List.mem_of_getElem? (i := 117) rfl))) rfl
theorem t_358 : Cond.selects RX3 yX3_count yX3_count ∈ gT := gT_mem (List.mem_append_right _ (List.mem_append_right _ (List.mem_of_getElem? (i := 118) rfl))) rfl
theorem t_359 : Cond.code yX3_count cX3_count 4 (some .int) ∈ gT := gT_mem (List.mem_append_right _ (List.mem_append_right _ (List.mem_of_getElem? (i := 119) rfl))) rfl
theorem t_360 : Cond.methodLink RL 75 yX3_mapping ∈ gT := gT_mem (List.mem_append_right _ (List.mem_append_right _ (List.mem_of_getElem? (i := 120) rfl))) rfl
theorem t_361 : Cond.instanceMethod yX3_mapping ∈ gT := gT_mem (List.mem_append_right _ (List.mem_append_right _ (List.mem_of_getElem? (i := 121) rfl))) rfl
theorem t_362 : Cond.selects RX3 yX3_mapping yX3_mapping ∈ gT := gT_mem (List.mem_append_right _ (List.mem_append_right _ (List.mem_of_getElem? (i := 122) rfl))) rfl
theorem t_363 : Cond.code yX3_mapping cX3_mapping 5 (some .int) ∈ gT := gT_mem (List.mem_append_right _ (List.mem_append_right _ (List.mem_of_getElem? (i := 123) rfl))) rfl
theorem t_364 : Cond.methodLink RL 79 yX3_twin ∈ gT := gT_mem (List.mem_append_right _ (List.mem_append_right _ (List.mem_of_getElem? (i := 124) rfl))) rfl
theorem t_365 : Cond.instanceMethod yX3_twin ∈ gT := gT_mem (List.mem_append_right _ (List.mem_append_right _ (List.mem_of_getElem? (i := 125) rfl))) rfl
theorem t_366 : Cond.selects RX3 yX3_twin yX3_twin ∈ gT := gT_mem (List.mem_append_right _ (List.mem_append_right _ (List.mem_of_getElem? (i := 126) rfl))) rfl
theorem t_367 : Cond.code yX3_twin cX3_twin 8 (some .int) ∈ gT := gT_mem (List.mem_append_right _ (List.mem_append_right _ (List.mem_of_getElem? (i := 127) rfl))) rfl
theorem t_368 : Cond.methodLink RL 83 yX3_running ∈ gT := gT_mem (List.mem_append_right _ (List.mem_append_right _ (List.mem_of_getElem? (i := 128) rfl))) rfl
theorem t_369 : Cond.instanceMethod yX3_running ∈ gT := gT_mem (List.mem_append_right _ (List.mem_append_right _ (List.mem_of_getElem? (i := 129) rfl))) rfl
theorem t_370 : Cond.selects RX3 yX3_running yX3_running ∈ gT := gT_mem (List.mem_append_right _ (List.mem_append_right _ (List.mem_of_getElem? (i := 130) rfl))) rfl
theorem t_371 : Cond.code yX3_running cX3_running 3 (some .int) ∈ gT := gT_mem (List.mem_append_right _ (List.mem_append_right _ (List.mem_of_getElem? (i := 131) rfl))) rfl
theorem t_372 : Cond.methodLink RL 88 yX3_faults ∈ gT := gT_mem (List.mem_append_right _ (List.mem_append_right _ (List.mem_of_getElem? (i := 132) rfl))) rfl
theorem t_373 : Cond.instanceMethod yX3_faults ∈ gT := gT_mem (List.mem_append_right _ (List.mem_append_right _ (List.mem_of_getElem? (i := 133) rfl))) rfl
theorem t_374 : Cond.selects RX3 yX3_faults yX3_faults ∈ gT := gT_mem (List.mem_append_right _ (List.mem_append_right _ (List.mem_of_getElem? (i := 134) rfl))) rfl
theorem t_375 : Cond.code yX3_faults cX3_faults 2 (some .int) ∈ gT := gT_mem (List.mem_append_right _ (List.mem_append_right _ (List.mem_of_getElem? (i := 135) rfl))) rfl
theorem s_0 : Cond.selects RX2 yX2_leastIdle yX2_leastIdle ∈ gT := gT_mem (List.mem_append_left _ (List.mem_of_getElem? (i := 0) rfl)) rfl
theorem s_1 : Cond.selects RX2 yX2_freeFrames yX2_freeFrames ∈ gT := gT_mem (List.mem_append_left _ (List.mem_of_getElem? (i := 1) rfl)) rfl
theorem s_2 : Cond.selects RX1 yX1_usedFrames yX1_usedFrames ∈ gT := gT_mem (List.mem_append_left _ (List.mem_of_getElem? (i := 2) rfl)) rfl
theorem s_3 : Cond.selects RX0 yX0_tableCount yX0_tableCount ∈ gT := gT_mem (List.mem_append_left _ (List.mem_of_getElem? (i := 3) rfl)) rfl
theorem s_4 : Cond.selects RX2 yX2_isRunning yX2_isRunning ∈ gT := gT_mem (List.mem_append_left _ (List.mem_of_getElem? (i := 4) rfl)) rfl
theorem s_5 : Cond.selects RX0 yX0_has yX0_has ∈ gT := gT_mem (List.mem_append_left _ (List.mem_of_getElem? (i := 5) rfl)) rfl
theorem s_6 : Cond.selects RX2 yX2_sharePage yX2_sharePage ∈ gT := gT_mem (List.mem_append_left _ (List.mem_of_getElem? (i := 6) rfl)) rfl
theorem s_7 : Cond.selects RX0 yX0_is yX0_is ∈ gT := gT_mem (List.mem_append_left _ (List.mem_of_getElem? (i := 7) rfl)) rfl
theorem s_8 : Cond.selects RX0 yX0_turn yX0_turn ∈ gT := gT_mem (List.mem_append_left _ (List.mem_of_getElem? (i := 8) rfl)) rfl
theorem s_9 : Cond.selects RX2 yX2_startMapping yX2_startMapping ∈ gT := gT_mem (List.mem_append_left _ (List.mem_of_getElem? (i := 9) rfl)) rfl
theorem s_10 : Cond.selects RX0 yX0_set yX0_set ∈ gT := gT_mem (List.mem_append_left _ (List.mem_of_getElem? (i := 10) rfl)) rfl
theorem s_11 : Cond.selects RX2 yX2_endMapping yX2_endMapping ∈ gT := gT_mem (List.mem_append_left _ (List.mem_of_getElem? (i := 11) rfl)) rfl
theorem s_12 : Cond.selects RX0 yX0_clear yX0_clear ∈ gT := gT_mem (List.mem_append_left _ (List.mem_of_getElem? (i := 12) rfl)) rfl
theorem s_13 : Cond.selects RX0 yX0_tablesToAdd yX0_tablesToAdd ∈ gT := gT_mem (List.mem_append_left _ (List.mem_of_getElem? (i := 13) rfl)) rfl
theorem s_14 : Cond.selects RX1 yX1_unusedFrame yX1_unusedFrame ∈ gT := gT_mem (List.mem_append_left _ (List.mem_of_getElem? (i := 14) rfl)) rfl
theorem s_15 : Cond.selects RX1 yX1_blank yX1_blank ∈ gT := gT_mem (List.mem_append_left _ (List.mem_of_getElem? (i := 15) rfl)) rfl
theorem s_16 : Cond.selects RX2 yX2_refusalOfMapped yX2_refusalOfMapped ∈ gT := gT_mem (List.mem_append_left _ (List.mem_of_getElem? (i := 16) rfl)) rfl
theorem s_17 : Cond.selects RX2 yX2_refusalOfAddress yX2_refusalOfAddress ∈ gT := gT_mem (List.mem_append_left _ (List.mem_of_getElem? (i := 17) rfl)) rfl
theorem s_18 : Cond.selects RX2 yX2_resolveFault yX2_resolveFault ∈ gT := gT_mem (List.mem_append_left _ (List.mem_of_getElem? (i := 18) rfl)) rfl
theorem s_19 : Cond.selects RX1 yX1_copy yX1_copy ∈ gT := gT_mem (List.mem_append_left _ (List.mem_of_getElem? (i := 19) rfl)) rfl
theorem s_20 : Cond.selects RX3 yX3_leads yX3_leads ∈ gT := gT_mem (List.mem_append_left _ (List.mem_of_getElem? (i := 20) rfl)) rfl
theorem s_21 : Cond.selects RX3 yX3_tablesOf yX3_tablesOf ∈ gT := gT_mem (List.mem_append_left _ (List.mem_of_getElem? (i := 21) rfl)) rfl
theorem s_22 : Cond.selects RX3 yX3_some yX3_some ∈ gT := gT_mem (List.mem_append_left _ (List.mem_of_getElem? (i := 22) rfl)) rfl
theorem s_23 : Cond.selects RX3 yX3_idle yX3_idle ∈ gT := gT_mem (List.mem_append_left _ (List.mem_of_getElem? (i := 23) rfl)) rfl
theorem s_24 : Cond.selects RX3 yX3_away yX3_away ∈ gT := gT_mem (List.mem_append_left _ (List.mem_of_getElem? (i := 24) rfl)) rfl
theorem s_25 : Cond.selects RX3 yX3_clear yX3_clear ∈ gT := gT_mem (List.mem_append_left _ (List.mem_of_getElem? (i := 25) rfl)) rfl
theorem s_26 : Cond.selects RX3 yX3_more yX3_more ∈ gT := gT_mem (List.mem_append_left _ (List.mem_of_getElem? (i := 26) rfl)) rfl
theorem s_27 : Cond.selects RX3 yX3_unused yX3_unused ∈ gT := gT_mem (List.mem_append_left _ (List.mem_of_getElem? (i := 27) rfl)) rfl
theorem s_28 : Cond.selects RX3 yX3_bar yX3_bar ∈ gT := gT_mem (List.mem_append_left _ (List.mem_of_getElem? (i := 28) rfl)) rfl
theorem nm_X2_init : g_nm yX2_init 0 := by unfold g_nm; decide +kernel
theorem nm_X0_init : g_nm yX0_init 0 := by unfold g_nm; decide +kernel
theorem nm_X1_init : g_nm yX1_init 0 := by unfold g_nm; decide +kernel
theorem nm_X2_spawn : g_nm yX2_spawn 0 := by unfold g_nm; decide +kernel
theorem nm_X2_leastIdle : g_nm yX2_leastIdle 0 := by unfold g_nm; decide +kernel
theorem nm_X2_freeFrames : g_nm yX2_freeFrames 0 := by unfold g_nm; decide +kernel
theorem nm_X1_usedFrames : g_nm yX1_usedFrames 0 := by unfold g_nm; decide +kernel
theorem nm_X0_tableCount : g_nm yX0_tableCount 0 := by unfold g_nm; decide +kernel
theorem nm_X0_tablesFor : g_nm yX0_tablesFor 1 := by unfold g_nm; decide +kernel
theorem nm_X0_spansUsed : g_nm yX0_spansUsed 3 := by unfold g_nm; decide +kernel
theorem nm_X2_fork : g_nm yX2_fork 1 := by unfold g_nm; decide +kernel
theorem nm_X2_isRunning : g_nm yX2_isRunning 1 := by unfold g_nm; decide +kernel
theorem nm_X0_has : g_nm yX0_has 1 := by unfold g_nm; decide +kernel
theorem nm_X2_sharePage : g_nm yX2_sharePage 3 := by unfold g_nm; decide +kernel
theorem nm_X0_is : g_nm yX0_is 2 := by unfold g_nm; decide +kernel
theorem nm_X0_turn : g_nm yX0_turn 2 := by unfold g_nm; decide +kernel
theorem nm_X2_startMapping : g_nm yX2_startMapping 4 := by unfold g_nm; decide +kernel
theorem nm_X0_set : g_nm yX0_set 3 := by unfold g_nm; decide +kernel
theorem nm_X2_exit : g_nm yX2_exit 1 := by unfold g_nm; decide +kernel
theorem nm_X2_endMapping : g_nm yX2_endMapping 2 := by unfold g_nm; decide +kernel
theorem nm_X0_clear : g_nm yX0_clear 1 := by unfold g_nm; decide +kernel
theorem nm_X2_map : g_nm yX2_map 3 := by unfold g_nm; decide +kernel
theorem nm_X2_isPage : g_nm yX2_isPage 1 := by unfold g_nm; decide +kernel
theorem nm_X0_tablesToAdd : g_nm yX0_tablesToAdd 1 := by unfold g_nm; decide +kernel
theorem nm_X1_unusedFrame : g_nm yX1_unusedFrame 0 := by unfold g_nm; decide +kernel
theorem nm_X1_blank : g_nm yX1_blank 1 := by unfold g_nm; decide +kernel
theorem nm_X2_attach : g_nm yX2_attach 4 := by unfold g_nm; decide +kernel
theorem nm_X2_unmap : g_nm yX2_unmap 2 := by unfold g_nm; decide +kernel
theorem nm_X2_refusalOfMapped : g_nm yX2_refusalOfMapped 2 := by unfold g_nm; decide +kernel
theorem nm_X2_protect : g_nm yX2_protect 3 := by unfold g_nm; decide +kernel
theorem nm_X2_write : g_nm yX2_write 3 := by unfold g_nm; decide +kernel
theorem nm_X2_refusalOfAddress : g_nm yX2_refusalOfAddress 2 := by unfold g_nm; decide +kernel
theorem nm_X2_resolveFault : g_nm yX2_resolveFault 2 := by unfold g_nm; decide +kernel
theorem nm_X1_copy : g_nm yX1_copy 2 := by unfold g_nm; decide +kernel
theorem nm_X2_read : g_nm yX2_read 2 := by unfold g_nm; decide +kernel
theorem nm_X2_free : g_nm yX2_free 0 := by unfold g_nm; decide +kernel
theorem nm_X2_tables : g_nm yX2_tables 1 := by unfold g_nm; decide +kernel
theorem nm_X2_pages : g_nm yX2_pages 1 := by unfold g_nm; decide +kernel
theorem nm_J13_bitCount_95d88 : g_nm yJ13_bitCount_95d88 1 := by unfold g_nm; decide +kernel
theorem nm_X2_count : g_nm yX2_count 2 := by unfold g_nm; decide +kernel
theorem nm_X2_mapping : g_nm yX2_mapping 2 := by unfold g_nm; decide +kernel
theorem nm_X2_twin : g_nm yX2_twin 4 := by unfold g_nm; decide +kernel
theorem nm_X2_running : g_nm yX2_running 0 := by unfold g_nm; decide +kernel
theorem nm_X2_faults : g_nm yX2_faults 1 := by unfold g_nm; decide +kernel
theorem nm_X3_init : g_nm yX3_init 0 := by unfold g_nm; decide +kernel
theorem nm_X3_free : g_nm yX3_free 0 := by unfold g_nm; decide +kernel
theorem nm_X3_leads : g_nm yX3_leads 1 := by unfold g_nm; decide +kernel
theorem nm_X3_tablesOf : g_nm yX3_tablesOf 1 := by unfold g_nm; decide +kernel
theorem nm_X3_some : g_nm yX3_some 3 := by unfold g_nm; decide +kernel
theorem nm_X3_spawn : g_nm yX3_spawn 0 := by unfold g_nm; decide +kernel
theorem nm_X3_idle : g_nm yX3_idle 0 := by unfold g_nm; decide +kernel
theorem nm_X3_fork : g_nm yX3_fork 1 := by unfold g_nm; decide +kernel
theorem nm_X3_away : g_nm yX3_away 1 := by unfold g_nm; decide +kernel
theorem nm_X3_exit : g_nm yX3_exit 1 := by unfold g_nm; decide +kernel
theorem nm_X3_clear : g_nm yX3_clear 1 := by unfold g_nm; decide +kernel
theorem nm_X3_map : g_nm yX3_map 3 := by unfold g_nm; decide +kernel
theorem nm_X3_isPage : g_nm yX3_isPage 1 := by unfold g_nm; decide +kernel
theorem nm_X3_more : g_nm yX3_more 2 := by unfold g_nm; decide +kernel
theorem nm_X3_unused : g_nm yX3_unused 0 := by unfold g_nm; decide +kernel
theorem nm_X3_attach : g_nm yX3_attach 4 := by unfold g_nm; decide +kernel
theorem nm_X3_unmap : g_nm yX3_unmap 2 := by unfold g_nm; decide +kernel
theorem nm_X3_bar : g_nm yX3_bar 2 := by unfold g_nm; decide +kernel
theorem nm_X3_protect : g_nm yX3_protect 3 := by unfold g_nm; decide +kernel
theorem nm_X3_write : g_nm yX3_write 3 := by unfold g_nm; decide +kernel
theorem nm_X3_pageOf : g_nm yX3_pageOf 1 := by unfold g_nm; decide +kernel
theorem nm_X3_read : g_nm yX3_read 2 := by unfold g_nm; decide +kernel
theorem nm_X3_tables : g_nm yX3_tables 1 := by unfold g_nm; decide +kernel
theorem nm_X3_pages : g_nm yX3_pages 1 := by unfold g_nm; decide +kernel
theorem nm_X3_count : g_nm yX3_count 2 := by unfold g_nm; decide +kernel
theorem nm_X3_mapping : g_nm yX3_mapping 2 := by unfold g_nm; decide +kernel
theorem nm_X3_twin : g_nm yX3_twin 4 := by unfold g_nm; decide +kernel
theorem nm_X3_running : g_nm yX3_running 0 := by unfold g_nm; decide +kernel
theorem nm_X3_faults : g_nm yX3_faults 1 := by unfold g_nm; decide +kernel
theorem gX0 : ∀ w ∈ u_ws RX0 TX0 4, w ∈ gT := by
  have h : (u_ws RX0 TX0 4).all (fun w => decide (w ∈ lw_tbl) && goodWord w) = true := by decide +kernel
  intro w hw
  have h1 := List.all_eq_true.mp h w hw
  simp only [Bool.and_eq_true, decide_eq_true_eq] at h1
  exact gT_mem h1.1 h1.2
theorem gX1 : ∀ w ∈ u_ws RX1 TX1 2, w ∈ gT := by
  have h : (u_ws RX1 TX1 2).all (fun w => decide (w ∈ lw_tbl) && goodWord w) = true := by decide +kernel
  intro w hw
  have h1 := List.all_eq_true.mp h w hw
  simp only [Bool.and_eq_true, decide_eq_true_eq] at h1
  exact gT_mem h1.1 h1.2
theorem gX2 : ∀ w ∈ u_ws RX2 TX2 4, w ∈ gT := by
  have h : (u_ws RX2 TX2 4).all (fun w => decide (w ∈ lw_tbl) && goodWord w) = true := by decide +kernel
  intro w hw
  have h1 := List.all_eq_true.mp h w hw
  simp only [Bool.and_eq_true, decide_eq_true_eq] at h1
  exact gT_mem h1.1 h1.2
theorem gX3 : ∀ w ∈ u_ws RX3 TX3 8, w ∈ gT := by
  have h : (u_ws RX3 TX3 8).all (fun w => decide (w ∈ lw_tbl) && goodWord w) = true := by decide +kernel
  intro w hw
  have h1 := List.all_eq_true.mp h w hw
  simp only [Bool.and_eq_true, decide_eq_true_eq] at h1
  exact gT_mem h1.1 h1.2
end
section
/-! the objects of the worlds -/
abbrev cls : List vw_C := [(RX0, TX0, 4), (RX1, TX1, 2), (RX2, TX2, 4), (RX3, TX3, 8)]
/-! the world of one ForkedPages object -/
def bI (b : Bool) : Int32 := if b then 1 else 0
def up1 {α : Type} (f : Nat → α) (k : Nat) (v : α) : Nat → α := fun i => if i = k then v else f i
def enN (b : Nat → Bool) : Nat → Nat
  | 0 => 0
  | n + 1 => enN b n + (if b n then 2 ^ n else 0)
def en (b : Nat → Bool) : Int64 := lN (enN b 64)
theorem up1_s {α : Type} {f : Nat → α} {k : Nat} {v : α} : up1 f k v k = v := by simp [up1]
theorem up1_n {α : Type} {f : Nat → α} {k j : Nat} {v : α} (h : j ≠ k) : up1 f k v j = f j := by simp [up1, h]
theorem upd_nI (g : Nat → Nat) (k v : Nat) : upd (fun i => nI (g i)) k (nI v) = fun i => nI (up1 g k v i) := by
  funext i
  by_cases h : i = k <;> simp [upd, up1, h]
theorem bI_t : bI true = 1 := rfl
theorem bI_f : bI false = 0 := rfl
def fpT (cI cQ cZ : ClassId) : List (ClassId × FieldType) := [(cI, .int), (cQ, .object RX0), (cZ, .boolean)]
def fpW (ad : Nat → Nat) (cI cQ : ClassId) (run : Nat → Bool) (mp : Nat → Nat → Bool) (fr : Nat → Nat → Nat) (kd : Nat → Nat → Int32) (wd ct : Nat → Int32) (af cf : Int32) : va_W :=
  [(ad 0, .inr (2, [.ref (ad 1), .ref (ad 2), .int af, .int cf])),
   (ad 1, .inl (cQ, 5, .inr (.inr (.inr (.inr (fun j => some (ad (5 + 3 * j)))))))),
   (ad 2, .inr (1, [.ref (ad 3), .ref (ad 4)])),
   (ad 3, .inl (cI, 96, .inl wd)),
   (ad 4, .inl (cI, 24, .inl ct)),
   (ad 5, .inr (0, [.int (bI (run 0)), .long (en (mp 0)), .ref (ad 6), .ref (ad 7)])),
   (ad 6, .inl (cI, 64, .inl (fun k => nI (fr 0 k)))),
   (ad 7, .inl (cI, 64, .inl (kd 0))),
   (ad 8, .inr (0, [.int (bI (run 1)), .long (en (mp 1)), .ref (ad 9), .ref (ad 10)])),
   (ad 9, .inl (cI, 64, .inl (fun k => nI (fr 1 k)))),
   (ad 10, .inl (cI, 64, .inl (kd 1))),
   (ad 11, .inr (0, [.int (bI (run 2)), .long (en (mp 2)), .ref (ad 12), .ref (ad 13)])),
   (ad 12, .inl (cI, 64, .inl (fun k => nI (fr 2 k)))),
   (ad 13, .inl (cI, 64, .inl (kd 2))),
   (ad 14, .inr (0, [.int (bI (run 3)), .long (en (mp 3)), .ref (ad 15), .ref (ad 16)])),
   (ad 15, .inl (cI, 64, .inl (fun k => nI (fr 3 k)))),
   (ad 16, .inl (cI, 64, .inl (kd 3))),
   (ad 17, .inr (0, [.int (bI (run 4)), .long (en (mp 4)), .ref (ad 18), .ref (ad 19)])),
   (ad 18, .inl (cI, 64, .inl (fun k => nI (fr 4 k)))),
   (ad 19, .inl (cI, 64, .inl (kd 4)))]
section FW
variable {ad : Nat → Nat} {cI cQ cZ : ClassId} {run : Nat → Bool} {mp : Nat → Nat → Bool} {fr : Nat → Nat → Nat} {kd : Nat → Nat → Int32} {wd ct : Nat → Int32} {af cf : Int32} {j : Nat}
theorem lt5 (hj : j < 5) : j = 0 ∨ j = 1 ∨ j = 2 ∨ j = 3 ∨ j = 4 := by omega
theorem fp_0 : (fpW ad cI cQ run mp fr kd wd ct af cf)[0]? = some (ad 0, .inr (2, [.ref (ad 1), .ref (ad 2), .int af, .int cf])) := rfl
theorem fp_1 : (fpW ad cI cQ run mp fr kd wd ct af cf)[1]? = some (ad 1, .inl (cQ, 5, .inr (.inr (.inr (.inr (fun j => some (ad (5 + 3 * j)))))))) := rfl
theorem fp_2 : (fpW ad cI cQ run mp fr kd wd ct af cf)[2]? = some (ad 2, .inr (1, [.ref (ad 3), .ref (ad 4)])) := rfl
theorem fp_3 : (fpW ad cI cQ run mp fr kd wd ct af cf)[3]? = some (ad 3, .inl (cI, 96, .inl wd)) := rfl
theorem fp_4 : (fpW ad cI cQ run mp fr kd wd ct af cf)[4]? = some (ad 4, .inl (cI, 24, .inl ct)) := rfl
theorem fp_5 (hj : j < 5) : (fpW ad cI cQ run mp fr kd wd ct af cf)[5 + 3 * j]? = some (ad (5 + 3 * j), .inr (0, [.int (bI (run j)), .long (en (mp j)), .ref (ad (6 + 3 * j)), .ref (ad (7 + 3 * j))])) := by
  rcases lt5 hj with rfl | rfl | rfl | rfl | rfl <;> rfl
theorem fp_6 (hj : j < 5) : (fpW ad cI cQ run mp fr kd wd ct af cf)[6 + 3 * j]? = some (ad (6 + 3 * j), .inl (cI, 64, .inl (fun k => nI (fr j k)))) := by
  rcases lt5 hj with rfl | rfl | rfl | rfl | rfl <;> rfl
theorem fp_7 (hj : j < 5) : (fpW ad cI cQ run mp fr kd wd ct af cf)[7 + 3 * j]? = some (ad (7 + 3 * j), .inl (cI, 64, .inl (kd j))) := by
  rcases lt5 hj with rfl | rfl | rfl | rfl | rfl <;> rfl
theorem fp_s0a (v : Int32) : (fpW ad cI cQ run mp fr kd wd ct af cf).set 0 (ad 0, .inr (2, [.ref (ad 1), .ref (ad 2), .int v, .int cf])) = fpW ad cI cQ run mp fr kd wd ct v cf := rfl
theorem fp_s0c (v : Int32) : (fpW ad cI cQ run mp fr kd wd ct af cf).set 0 (ad 0, .inr (2, [.ref (ad 1), .ref (ad 2), .int af, .int v])) = fpW ad cI cQ run mp fr kd wd ct af v := rfl
theorem fp_s3 (g : Nat → Int32) : (fpW ad cI cQ run mp fr kd wd ct af cf).set 3 (ad 3, .inl (cI, 96, .inl g)) = fpW ad cI cQ run mp fr kd g ct af cf := rfl
theorem fp_s4 (g : Nat → Int32) : (fpW ad cI cQ run mp fr kd wd ct af cf).set 4 (ad 4, .inl (cI, 24, .inl g)) = fpW ad cI cQ run mp fr kd wd g af cf := rfl
theorem fp_s5r (hj : j < 5) (b : Bool) : (fpW ad cI cQ run mp fr kd wd ct af cf).set (5 + 3 * j) (ad (5 + 3 * j), .inr (0, [.int (bI b), .long (en (mp j)), .ref (ad (6 + 3 * j)), .ref (ad (7 + 3 * j))])) = fpW ad cI cQ (up1 run j b) mp fr kd wd ct af cf := by
  rcases lt5 hj with rfl | rfl | rfl | rfl | rfl <;> rfl
theorem fp_s5m (hj : j < 5) (b : Nat → Bool) : (fpW ad cI cQ run mp fr kd wd ct af cf).set (5 + 3 * j) (ad (5 + 3 * j), .inr (0, [.int (bI (run j)), .long (en b), .ref (ad (6 + 3 * j)), .ref (ad (7 + 3 * j))])) = fpW ad cI cQ run (up1 mp j b) fr kd wd ct af cf := by
  rcases lt5 hj with rfl | rfl | rfl | rfl | rfl <;> rfl
theorem fp_s6 (hj : j < 5) (g : Nat → Nat) : (fpW ad cI cQ run mp fr kd wd ct af cf).set (6 + 3 * j) (ad (6 + 3 * j), .inl (cI, 64, .inl (fun k => nI (g k)))) = fpW ad cI cQ run mp (up1 fr j g) kd wd ct af cf := by
  rcases lt5 hj with rfl | rfl | rfl | rfl | rfl <;> rfl
theorem fp_s7 (hj : j < 5) (g : Nat → Int32) : (fpW ad cI cQ run mp fr kd wd ct af cf).set (7 + 3 * j) (ad (7 + 3 * j), .inl (cI, 64, .inl g)) = fpW ad cI cQ run mp fr (up1 kd j g) wd ct af cf := by
  rcases lt5 hj with rfl | rfl | rfl | rfl | rfl <;> rfl
theorem fp_s6u (hj : j < 5) (k f : Nat) : (fpW ad cI cQ run mp fr kd wd ct af cf).set (6 + 3 * j) (ad (6 + 3 * j), .inl (cI, 64, .inl (upd (fun k => nI (fr j k)) k (nI f)))) = fpW ad cI cQ run mp (up1 fr j (up1 (fr j) k f)) kd wd ct af cf := by
  rw [upd_nI]; exact fp_s6 hj _
end FW
end
section
theorem wb_tb (n : Nat) : (lN n).toBitVec = BitVec.ofNat 64 n := rfl
theorem wb_inj {a b : Int64} (h : a.toBitVec = b.toBitVec) : a = b := Int64.toBitVec_inj.mp h
theorem wb_tn {n : Nat} (h : n < 2 ^ 64) : (lN n).toBitVec.toNat = n := by rw [wb_tb, BitVec.toNat_ofNat, Nat.mod_eq_of_lt h]
theorem wb_of (x : Int64) : ∃ n, n < 2 ^ 64 ∧ x = lN n := ⟨x.toBitVec.toNat, x.toBitVec.isLt, wb_inj (by rw [wb_tb]; simp)⟩
theorem wb_of32 (x : Int32) : ∃ n, n < 2 ^ 32 ∧ x = nI n := ⟨x.toBitVec.toNat, x.toBitVec.isLt, Int32.toBitVec_inj.mp (by show _ = BitVec.ofNat 32 _; simp)⟩
theorem wb_c : ∀ k, k < 64 → ((nI k).toInt64 &&& 63) = lN k := by decide +kernel
theorem wb_cu : ∀ k, k < 64 → ((nI k).toInt64.toUInt64 &&& Int64.toUInt64 63) = UInt64.ofNat k := by decide +kernel
theorem wb_sm : ∀ k, k < 64 → (BitVec.ofNat 64 k).smod 64 = BitVec.ofNat 64 k := by decide +kernel
theorem wb_pw {a b : Nat} (h : a ≤ b) : 2 ^ b = 2 ^ a * 2 ^ (b - a) := by rw [← Nat.pow_add]; congr 1; omega
theorem wb_lt2 {a b : Nat} (h : a < b) : 2 ^ a < 2 ^ b := Nat.pow_lt_pow_right (by decide) h
theorem wb_mod (n : Nat) : lN n = lN (n % 2 ^ 64) := wb_inj (by rw [wb_tb, wb_tb]; apply BitVec.eq_of_toNat_eq; rw [BitVec.toNat_ofNat, BitVec.toNat_ofNat, Nat.mod_mod])
theorem wb_shr {n k : Nat} (hn : n < 2 ^ 64) (hk : k < 64) : ((lN n).toUInt64 >>> ((nI k).toInt64.toUInt64 &&& Int64.toUInt64 63)).toInt64 = lN (n / 2 ^ k) := by
  rw [wb_cu k hk]
  apply wb_inj
  apply BitVec.eq_of_toNat_eq
  show ((lN n).toUInt64 >>> UInt64.ofNat k).toNat = (BitVec.ofNat 64 _).toNat
  have h1 : (UInt64.ofNat k).toNat = k := by
    show (BitVec.ofNat 64 k).toNat = k
    rw [BitVec.toNat_ofNat, Nat.mod_eq_of_lt (by omega)]
  have h2 : (lN n).toUInt64.toNat = n := wb_tn hn
  rw [UInt64.toNat_shiftRight, h1, h2, Nat.mod_eq_of_lt hk, Nat.shiftRight_eq_div_pow, BitVec.toNat_ofNat, Nat.mod_eq_of_lt (Nat.lt_of_le_of_lt (Nat.div_le_self _ _) hn)]
theorem wb_shl (n : Nat) {k : Nat} (hk : k < 64) : lN n <<< ((nI k).toInt64 &&& 63) = lN (n * 2 ^ k) := by
  rw [wb_c k hk]
  apply wb_inj
  rw [Int64.toBitVec_shiftLeft, wb_tb, wb_tb, wb_tb, wb_sm k hk]
  apply BitVec.eq_of_toNat_eq
  rw [BitVec.shiftLeft_eq', BitVec.toNat_shiftLeft, BitVec.toNat_ofNat, BitVec.toNat_ofNat, BitVec.toNat_ofNat, Nat.mod_eq_of_lt (show k < 2 ^ 64 by omega), Nat.shiftLeft_eq, Nat.mul_mod, Nat.mod_mod, ← Nat.mul_mod]
theorem wb_and {a b : Nat} (ha : a < 2 ^ 64) (hb : b < 2 ^ 64) : lN a &&& lN b = lN (a &&& b) := by
  apply wb_inj
  rw [Int64.toBitVec_and, wb_tb, wb_tb, wb_tb]
  apply BitVec.eq_of_toNat_eq
  rw [BitVec.toNat_and, BitVec.toNat_ofNat, BitVec.toNat_ofNat, BitVec.toNat_ofNat, Nat.mod_eq_of_lt ha, Nat.mod_eq_of_lt hb, Nat.mod_eq_of_lt (Nat.and_lt_two_pow _ hb)]
theorem wb_or {a b : Nat} (ha : a < 2 ^ 64) (hb : b < 2 ^ 64) : lN a ||| lN b = lN (a ||| b) := by
  apply wb_inj
  rw [Int64.toBitVec_or, wb_tb, wb_tb, wb_tb]
  apply BitVec.eq_of_toNat_eq
  rw [BitVec.toNat_or, BitVec.toNat_ofNat, BitVec.toNat_ofNat, BitVec.toNat_ofNat, Nat.mod_eq_of_lt ha, Nat.mod_eq_of_lt hb, Nat.mod_eq_of_lt (Nat.or_lt_two_pow ha hb)]
theorem wb_mask {n k : Nat} (hn : n < 2 ^ 64) (hk : k < 64) : lN n &&& lN (2 ^ k - 1) = lN (n % 2 ^ k) := by
  rw [wb_and hn (by have := wb_lt2 hk; omega), Nat.and_two_pow_sub_one_eq_mod]
theorem wb_a1 {n : Nat} (hn : n < 2 ^ 64) : lN n &&& 1 = lN (n % 2) := wb_mask (k := 1) hn (by decide)
theorem wb_bit {n k : Nat} (hn : n < 2 ^ 64) (hk : k < 64) : ((lN n).toUInt64 >>> ((nI k).toInt64.toUInt64 &&& Int64.toUInt64 63)).toInt64 &&& 1 = lN (n / 2 ^ k % 2) := by
  rw [wb_shr hn hk, wb_a1 (Nat.lt_of_le_of_lt (Nat.div_le_self _ _) hn)]
theorem lN_bv (n : Nat) : (lN n).toBitVec = BitVec.ofNat 64 n := rfl
theorem lN_nat {n : Nat} (h : n < 2 ^ 64) : (lN n).toBitVec.toNat = n := by rw [lN_bv, BitVec.toNat_ofNat]; exact Nat.mod_eq_of_lt h
theorem lN_xor (a b : Nat) : lN a ^^^ lN b = lN (a ^^^ b) := by
  apply Int64.toBitVec_inj.mp; rw [Int64.toBitVec_xor, lN_bv, lN_bv, lN_bv]; apply BitVec.eq_of_getLsbD_eq; intro i hi; simp [BitVec.getLsbD_ofNat, Nat.testBit_xor, hi]
/-! the bits of a page set -/
theorem enN_lt (b : Nat → Bool) : ∀ n, enN b n < 2 ^ n
  | 0 => by simp [enN]
  | n + 1 => by
    have h := enN_lt b n
    simp only [enN, Nat.pow_succ]
    split <;> omega
theorem enN_tb (b : Nat → Bool) (k : Nat) : ∀ n, (enN b n).testBit k = (decide (k < n) && b k)
  | 0 => by simp [enN]
  | n + 1 => by
    have ih := enN_tb b k n
    have hl := enN_lt b n
    simp only [enN]
    by_cases hb : b n = true
    · rw [if_pos hb, Nat.add_comm]
      rcases Nat.lt_trichotomy k n with h | h | h
      · rw [Nat.testBit_two_pow_add_gt h, ih]
        have h2 : k < n + 1 := Nat.lt_succ_of_lt h
        simp [h, h2]
      · subst h
        rw [Nat.testBit_two_pow_add_eq, ih]
        simp [hb]
      · have h3 : 2 ^ n + enN b n < 2 ^ k := by
          have h4 : 2 ^ (n + 1) ≤ 2 ^ k := Nat.pow_le_pow_right (by decide) h
          have h5 : 2 ^ (n + 1) = 2 ^ n * 2 := Nat.pow_succ ..
          omega
        rw [Nat.testBit_lt_two_pow h3]
        have h6 : ¬ k < n + 1 := by omega
        simp [h6]
    · rw [if_neg hb, Nat.add_zero, ih]
      have hb2 : b n = false := by cases h : b n <;> simp_all
      by_cases h : k = n
      · subst h; simp [hb2]
      · by_cases h2 : k < n
        · have h3 : k < n + 1 := Nat.lt_succ_of_lt h2
          simp [h2, h3]
        · have h3 : ¬ k < n + 1 := by omega
          simp [h2, h3]
theorem enN_ext {b b' : Nat → Bool} (n : Nat) (h : ∀ k, k < n → b k = b' k) : enN b n = enN b' n := by
  apply Nat.eq_of_testBit_eq
  intro k
  rw [enN_tb, enN_tb]
  by_cases hk : k < n
  · rw [h k hk]
  · simp [hk]
theorem enN_64 (b : Nat → Bool) : enN b 64 < 2 ^ 64 := enN_lt b 64
theorem en_ext {b b' : Nat → Bool} (h : ∀ k, k < 64 → b k = b' k) : en b = en b' := by
  unfold en; rw [enN_ext 64 h]
theorem en_0 : en (fun _ => false) = 0 := by
  have h : enN (fun _ => false) 64 = 0 := by
    apply Nat.eq_of_testBit_eq
    intro k
    rw [enN_tb]
    simp
  unfold en
  rw [h]; rfl
theorem bit_dm (n k : Nat) : n / 2 ^ k % 2 = (if n.testBit k then 1 else 0) := by
  rw [Nat.testBit_eq_decide_div_mod_eq]
  by_cases h : n / 2 ^ k % 2 = 1
  · simp [h]
  · have : n / 2 ^ k % 2 = 0 := by omega
    simp [this]
theorem en_bit (b : Nat → Bool) {k : Nat} (hk : k < 64) : ((en b).toUInt64 >>> ((nI k).toInt64.toUInt64 &&& Int64.toUInt64 63)).toInt64 &&& 1 = lN (if b k then 1 else 0) := by
  unfold en
  rw [wb_bit (enN_64 b) hk, bit_dm, enN_tb]
  simp [hk]
theorem en_one {k : Nat} (hk : k < 64) : (1 : Int64) <<< ((nI k).toInt64 &&& 63) = lN (2 ^ k) := by
  have h := wb_shl 1 hk
  rw [Nat.one_mul] at h
  exact h
theorem pw_64 {k : Nat} (hk : k < 64) : 2 ^ k < 2 ^ 64 := wb_lt2 hk
theorem en_set (b : Nat → Bool) {k : Nat} (hk : k < 64) : en b ||| ((1 : Int64) <<< ((nI k).toInt64 &&& 63)) = en (up1 b k true) := by
  rw [en_one hk]
  unfold en
  rw [wb_or (enN_64 b) (pw_64 hk)]
  congr 1
  apply Nat.eq_of_testBit_eq
  intro i
  rw [Nat.testBit_or, enN_tb, enN_tb, Nat.testBit_two_pow]
  by_cases h : i = k
  · subst h; simp [up1, hk]
  · have h2 : ¬ k = i := fun e => h e.symm
    simp [up1, h, h2]
theorem en_clr (b : Nat → Bool) {k : Nat} (hk : k < 64) : en b &&& (((1 : Int64) <<< ((nI k).toInt64 &&& 63)) ^^^ (-1)) = en (up1 b k false) := by
  rw [en_one hk]
  have h1 : (-1 : Int64) = lN (2 ^ 64 - 1) := by decide
  unfold en
  rw [h1, lN_xor]
  have h2 : 2 ^ k ^^^ (2 ^ 64 - 1) < 2 ^ 64 := Nat.xor_lt_two_pow (pw_64 hk) (by decide)
  rw [wb_and (enN_64 b) h2]
  congr 1
  apply Nat.eq_of_testBit_eq
  intro i
  rw [Nat.testBit_and, enN_tb, enN_tb, Nat.testBit_xor, Nat.testBit_two_pow, Nat.testBit_two_pow_sub_one]
  by_cases h : i = k
  · subst h; simp [up1, hk]
  · have h2 : ¬ k = i := fun e => h e.symm
    by_cases h3 : i < 64 <;> simp [up1, h, h2, h3]
/-- is one of w pages from a mapped -/
def anB (b : Nat → Bool) (a : Nat) : Nat → Bool
  | 0 => false
  | w + 1 => anB b a w || b (a + w)
theorem anB_f (b : Nat → Bool) (a : Nat) : ∀ w, anB b a w = false ↔ ∀ k, k < w → b (a + k) = false
  | 0 => by simp [anB]
  | w + 1 => by
    simp only [anB, Bool.or_eq_false_iff, anB_f b a w]
    constructor
    · intro h k hk
      by_cases h2 : k = w
      · subst h2; exact h.2
      · exact h.1 k (by omega)
    · intro h
      exact ⟨fun k hk => h k (by omega), h w (by omega)⟩
theorem anB_t (b : Nat → Bool) (a w : Nat) : anB b a w = true ↔ ∃ k, k < w ∧ b (a + k) = true := by
  constructor
  · intro h
    refine Classical.byContradiction fun hn => ?_
    have h2 : anB b a w = false := (anB_f b a w).mpr (fun k hk => by
      cases h3 : b (a + k)
      · rfl
      · exact absurd ⟨k, hk, h3⟩ hn)
    rw [h] at h2; cases h2
  · intro ⟨k, hk, h⟩
    cases h2 : anB b a w
    · have := (anB_f b a w).mp h2 k hk
      rw [h] at this; cases this
    · rfl
theorem en_mask {w : Nat} (hw : w < 63) : (1 : Int64) <<< ((nI w).toInt64 &&& 63) - 1 = lN (2 ^ w - 1) := by
  rw [en_one (Nat.lt_succ_of_lt hw)]
  exact lN_sub (b := 1) (Nat.one_le_two_pow)
theorem en_span (b : Nat → Bool) {a w : Nat} (ha : a < 64) (hw : w < 63) (haw : a + w ≤ 64) : (((en b).toUInt64 >>> ((nI a).toInt64.toUInt64 &&& Int64.toUInt64 63)).toInt64 &&& lN (2 ^ w - 1) = 0) ↔ anB b a w = false := by
  unfold en
  rw [wb_shr (enN_64 b) ha, wb_mask (Nat.lt_of_le_of_lt (Nat.div_le_self _ _) (enN_64 b)) (Nat.lt_succ_of_lt hw)]
  have h63 : enN b 64 / 2 ^ a % 2 ^ w < 2 ^ 63 := Nat.lt_of_lt_of_le (Nat.mod_lt _ (Nat.two_pow_pos w)) (Nat.pow_le_pow_right (by decide) (by omega))
  have h0 : (lN (enN b 64 / 2 ^ a % 2 ^ w) = 0) ↔ enN b 64 / 2 ^ a % 2 ^ w = 0 := pk_lEQ (b := 0) h63 (by decide)
  rw [h0, anB_f]
  constructor
  · intro h k hk
    have h1 : (enN b 64 / 2 ^ a % 2 ^ w).testBit k = false := by rw [h]; exact Nat.zero_testBit k
    rw [Nat.testBit_mod_two_pow, Nat.testBit_div_two_pow, enN_tb] at h1
    have h2 : k + a < 64 := by omega
    have h3 : a + k < 64 := by omega
    have h4 : k + a = a + k := Nat.add_comm _ _
    simp [hk, h2, h3] at h1
    first | exact h1 | (rw [h4] at h1; exact h1)
  · intro h
    apply Nat.eq_of_testBit_eq
    intro k
    rw [Nat.testBit_mod_two_pow, Nat.testBit_div_two_pow, enN_tb, Nat.zero_testBit]
    by_cases hk : k < w
    · have h1 := h k hk
      rw [show k + a = a + k from Nat.add_comm k a, h1]
      simp
    · simp [hk]
/-- how many of n spans of w pages hold a mapped one; how many tables that makes -/
def spU (b : Nat → Bool) (w : Nat) : Nat → Nat
  | 0 => 0
  | n + 1 => spU b w n + (if anB b (n * w) w then 1 else 0)
def tbN (b : Nat → Bool) : Nat := 1 + spU b 16 4 + spU b 4 16
theorem spU_le (b : Nat → Bool) (w : Nat) : ∀ n, spU b w n ≤ n
  | 0 => Nat.le_refl _
  | n + 1 => by
    have := spU_le b w n
    simp only [spU]
    split <;> omega
/-- frames in use; the last one that is not -/
def usN (ct : Nat → Int32) : Nat → Nat
  | 0 => 0
  | n + 1 => usN ct n + (if 0 < ct n then 1 else 0)
def unF (ct : Nat → Int32) : Nat → Nat
  | 0 => 0
  | n + 1 => if ct n = 0 then n else unF ct n
theorem usN_le (ct : Nat → Int32) : ∀ n, usN ct n ≤ n
  | 0 => Nat.le_refl _
  | n + 1 => by
    have := usN_le ct n
    simp only [usN]
    split <;> omega
theorem unF_lt (ct : Nat → Int32) : ∀ n, 0 < n → unF ct n < n
  | 0, h => absurd h (Nat.lt_irrefl 0)
  | n + 1, _ => by
    simp only [unF]
    split
    · omega
    · by_cases h : 0 < n
      · have := unF_lt ct n h; omega
      · have : n = 0 := by omega
        subst this; simp [unF]
end
section
/-! Long.bitCount: its steps, and that they count the bits -/
def bc1 (x : Int64) : Int64 := x - (((x).toUInt64 >>> ((nI 1).toInt64.toUInt64 &&& Int64.toUInt64 63)).toInt64 &&& 6148914691236517205)
def bc2 (x : Int64) : Int64 := (x &&& 3689348814741910323) + (((x).toUInt64 >>> ((nI 2).toInt64.toUInt64 &&& Int64.toUInt64 63)).toInt64 &&& 3689348814741910323)
def bc3 (x : Int64) : Int64 := (x + ((x).toUInt64 >>> ((nI 4).toInt64.toUInt64 &&& Int64.toUInt64 63)).toInt64) &&& 1085102592571150095
def bc4 (x : Int64) : Int64 := x + ((x).toUInt64 >>> ((nI 8).toInt64.toUInt64 &&& Int64.toUInt64 63)).toInt64
def bc5 (x : Int64) : Int64 := x + ((x).toUInt64 >>> ((nI 16).toInt64.toUInt64 &&& Int64.toUInt64 63)).toInt64
def bc6 (x : Int64) : Int64 := x + ((x).toUInt64 >>> ((nI 32).toInt64.toUInt64 &&& Int64.toUInt64 63)).toInt64
def bcI (x : Int64) : Int32 := (bc6 (bc5 (bc4 (bc3 (bc2 (bc1 x)))))).toInt32 &&& nI 127
def mk_ (c : Nat) : Nat → Nat
  | 0 => 0
  | k + 1 => 256 * mk_ c k + c
def f1_ (k n : Nat) : Nat := n - (n / 2 &&& mk_ 85 k)
def f2_ (k n : Nat) : Nat := (n &&& mk_ 51 k) + (n / 4 &&& mk_ 51 k)
def f3_ (k n : Nat) : Nat := (n + n / 16) &&& mk_ 15 k
/-- the set bits among the first w -/
def pcT (n : Nat) : Nat → Nat
  | 0 => 0
  | w + 1 => pcT n w + (if n.testBit w then 1 else 0)
def g_by : Nat → Nat → Nat
  | 0, _ => 0
  | k + 1, n => 256 * g_by k (n / 256) + pcT (n % 256) 8
theorem and_split (p q m c : Nat) (hq : q < 256) (hc : c < 256) : (256 * p + q) &&& (256 * m + c) = 256 * (p &&& m) + (q &&& c) := by
  have h1 : ((256 * p + q) &&& (256 * m + c)) % 2 ^ 8 = q &&& c := by
    rw [Nat.and_mod_two_pow]
    congr 1 <;> omega
  have h2 : ((256 * p + q) &&& (256 * m + c)) / 2 ^ 8 = p &&& m := by
    rw [Nat.and_div_two_pow]
    congr 1 <;> omega
  have h3 := Nat.div_add_mod ((256 * p + q) &&& (256 * m + c)) (2 ^ 8)
  rw [h1, h2] at h3
  omega
theorem by1 : ∀ b, b < 256 → ∀ e, e < 2 → ((e * 128 + b / 2) &&& 85) = (b / 2 &&& 85) ∧ (b / 2 &&& 85) ≤ b := by decide +kernel
theorem by2 : ∀ b, b < 256 → ∀ e, e < 4 → ((e * 64 + b / 4) &&& 51) = (b / 4 &&& 51) := by decide +kernel
def zb_ (b : Nat) : Nat := ((b - (b / 2 &&& 85)) &&& 51) + ((b - (b / 2 &&& 85)) / 4 &&& 51)
theorem by3 : ∀ b, b < 256 → zb_ b ≤ 68 ∧ zb_ b % 16 ≤ 4 := by decide +kernel
theorem by4 : ∀ b, b < 256 → ∀ e, e < 5 → (zb_ b + e * 16 + zb_ b / 16) &&& 15 = pcT b 8 := by decide +kernel
theorem pc_all (k : Nat) : ∀ n, f2_ k (f1_ k n) % 16 ≤ 4 ∧ f3_ k (f2_ k (f1_ k n)) = g_by k n := by
  induction k with
  | zero =>
    intro n
    simp [f2_, f3_, mk_, g_by]
  | succ k ih =>
    intro n
    obtain ⟨i1, i2⟩ := ih (n / 256)
    have hb : n % 256 < 256 := Nat.mod_lt _ (by decide)
    have hn : n = 256 * (n / 256) + n % 256 := (Nat.div_add_mod n 256).symm
    generalize n / 256 = h at i1 i2 hn
    generalize n % 256 = b at hb hn
    have e1 : f1_ (k + 1) n = 256 * f1_ k h + (b - (b / 2 &&& 85)) := by
      have q1 : n / 2 = 256 * (h / 2) + (h % 2 * 128 + b / 2) := by omega
      have q2 := by1 b hb (h % 2) (Nat.mod_lt _ (by decide))
      have q3 : h / 2 &&& mk_ 85 k ≤ h / 2 := Nat.and_le_left
      unfold f1_
      rw [q1, mk_, and_split _ _ _ _ (by omega) (by decide), q2.1]
      omega
    have hyb : b - (b / 2 &&& 85) < 256 := by omega
    have e2 : f2_ (k + 1) (f1_ (k + 1) n) = 256 * f2_ k (f1_ k h) + zb_ b := by
      rw [e1]
      generalize f1_ k h = yh
      have hz : zb_ b = ((b - (b / 2 &&& 85)) &&& 51) + ((b - (b / 2 &&& 85)) / 4 &&& 51) := rfl
      rw [hz]
      generalize b - (b / 2 &&& 85) = yb at hyb
      have q1 : (256 * yh + yb) / 4 = 256 * (yh / 4) + (yh % 4 * 64 + yb / 4) := by omega
      have q2 := by2 yb hyb (yh % 4) (Nat.mod_lt _ (by decide))
      unfold f2_
      rw [q1, mk_, and_split _ _ _ _ hyb (by decide), and_split _ _ _ _ (by omega) (by decide), q2]
      omega
    have h3 := by3 b hb
    refine ⟨by rw [e2]; omega, ?_⟩
    rw [e2]
    generalize f2_ k (f1_ k h) = zh at i1 i2
    have h4 := by4 b hb (zh % 16) (by omega)
    have q1 : 256 * zh + zb_ b + (256 * zh + zb_ b) / 16 = 256 * (zh + zh / 16) + (zb_ b + zh % 16 * 16 + zb_ b / 16) := by omega
    have q5 : n / 256 = h := by omega
    have q6 : n % 256 = b := by omega
    show (256 * zh + zb_ b + (256 * zh + zb_ b) / 16) &&& mk_ 15 (k + 1) = 256 * g_by k (n / 256) + pcT (n % 256) 8
    rw [q1, mk_, and_split _ _ _ _ (by omega) (by decide), h4, q5, q6]
    have i2' : (zh + zh / 16) &&& mk_ 15 k = g_by k h := i2
    rw [i2']
theorem pcT_le (n : Nat) : ∀ w, pcT n w ≤ w
  | 0 => Nat.le_refl _
  | w + 1 => by
    have := pcT_le n w
    simp only [pcT]
    split <;> omega
theorem pcT_add (n a : Nat) : ∀ w, pcT n (a + w) = pcT n a + pcT (n / 2 ^ a) w
  | 0 => by simp [pcT]
  | w + 1 => by
    have ih := pcT_add n a w
    show pcT n (a + w) + (if n.testBit (a + w) then 1 else 0) = pcT n a + (pcT (n / 2 ^ a) w + (if (n / 2 ^ a).testBit w then 1 else 0))
    rw [ih, Nat.testBit_div_two_pow, Nat.add_comm w a]
    omega
theorem pcT_mod (n a : Nat) : ∀ w, w ≤ a → pcT (n % 2 ^ a) w = pcT n w
  | 0, _ => rfl
  | w + 1, h => by
    have ih := pcT_mod n a w (by omega)
    have h2 : w < a := h
    show pcT (n % 2 ^ a) w + (if (n % 2 ^ a).testBit w then 1 else 0) = pcT n w + (if n.testBit w then 1 else 0)
    rw [ih, Nat.testBit_mod_two_pow]
    simp [h2]
def bs_ : Nat → Nat → Nat
  | 0, _ => 0
  | k + 1, s => s % 256 + bs_ k (s / 256)
theorem bs_g (k : Nat) : ∀ n, bs_ k (g_by k n) = pcT n (8 * k) := by
  induction k with
  | zero => intro n; rfl
  | succ k ih =>
    intro n
    have h8 := pcT_le (n % 256) 8
    have e1 : g_by (k + 1) n % 256 = pcT (n % 256) 8 := by simp only [g_by]; omega
    have e2 : g_by (k + 1) n / 256 = g_by k (n / 256) := by simp only [g_by]; omega
    show g_by (k + 1) n % 256 + bs_ k (g_by (k + 1) n / 256) = _
    rw [e1, e2, ih, show 8 * (k + 1) = 8 + 8 * k by omega, pcT_add n 8]
    have h3 := pcT_mod n 8 8 (Nat.le_refl _)
    rw [show (2 : Nat) ^ 8 = 256 from rfl] at h3 ⊢
    rw [h3]
def t3_ (s : Nat) : Nat := s + s / 256 + (s + s / 256) / 65536 + (s + s / 256 + (s + s / 256) / 65536) / 4294967296
theorem g_by8 (n : Nat) : ∃ p0 p1 p2 p3 p4 p5 p6 p7 : Nat, p0 ≤ 8 ∧ p1 ≤ 8 ∧ p2 ≤ 8 ∧ p3 ≤ 8 ∧ p4 ≤ 8 ∧ p5 ≤ 8 ∧ p6 ≤ 8 ∧ p7 ≤ 8 ∧ g_by 8 n = 256 * (256 * (256 * (256 * (256 * (256 * (256 * p7 + p6) + p5) + p4) + p3) + p2) + p1) + p0 :=
  ⟨pcT (n % 256) 8, pcT (n / 256 % 256) 8, pcT (n / 256 / 256 % 256) 8, pcT (n / 256 / 256 / 256 % 256) 8, pcT (n / 256 / 256 / 256 / 256 % 256) 8, pcT (n / 256 / 256 / 256 / 256 / 256 % 256) 8, pcT (n / 256 / 256 / 256 / 256 / 256 / 256 % 256) 8, pcT (n / 256 / 256 / 256 / 256 / 256 / 256 / 256 % 256) 8,
   pcT_le _ 8, pcT_le _ 8, pcT_le _ 8, pcT_le _ 8, pcT_le _ 8, pcT_le _ 8, pcT_le _ 8, pcT_le _ 8, by simp only [g_by, Nat.mul_zero, Nat.zero_add]⟩
theorem g_fin {p0 p1 p2 p3 p4 p5 p6 p7 a0 a1 a2 a3 a4 a5 a6 : Nat} (h0 : p0 ≤ 8) (h1 : p1 ≤ 8) (h2 : p2 ≤ 8) (h3 : p3 ≤ 8) (h4 : p4 ≤ 8) (h5 : p5 ≤ 8) (h6 : p6 ≤ 8) (h7 : p7 ≤ 8)
    (e6 : a6 = 256 * p7 + p6) (e5 : a5 = 256 * a6 + p5) (e4 : a4 = 256 * a5 + p4) (e3 : a3 = 256 * a4 + p3) (e2 : a2 = 256 * a3 + p2) (e1 : a1 = 256 * a2 + p1) (e0 : a0 = 256 * a1 + p0) : t3_ a0 % 128 = bs_ 8 a0 ∧ a0 < 2 ^ 60 := by
  have d0 : a0 / 256 = a1 := by omega
  have d1 : a1 / 256 = a2 := by omega
  have d2 : a2 / 256 = a3 := by omega
  have d3 : a3 / 256 = a4 := by omega
  have d4 : a4 / 256 = a5 := by omega
  have d5 : a5 / 256 = a6 := by omega
  have d6 : a6 / 256 = p7 := by omega
  have m0 : a0 % 256 = p0 := by omega
  have m1 : a1 % 256 = p1 := by omega
  have m2 : a2 % 256 = p2 := by omega
  have m3 : a3 % 256 = p3 := by omega
  have m4 : a4 % 256 = p4 := by omega
  have m5 : a5 % 256 = p5 := by omega
  have m6 : a6 % 256 = p6 := by omega
  have m7 : p7 % 256 = p7 := by omega
  have q1 : (a0 + a1) / 65536 = a2 + a3 := by
    have c0 : a0 = 65536 * a2 + (256 * p1 + p0) := by omega
    have c1 : a1 = 65536 * a3 + (256 * p2 + p1) := by omega
    clear e0 e1 e2 e3 e4 e5 e6 d0 d1 d2 d3 d4 d5 d6 m0 m1 m2 m3 m4 m5 m6 m7
    omega
  have q2 : (a0 + a1 + (a2 + a3)) / 4294967296 = a4 + a5 + a6 + p7 := by
    have c0 : a0 = 4294967296 * a4 + (16777216 * p3 + 65536 * p2 + 256 * p1 + p0) := by omega
    have c1 : a1 = 4294967296 * a5 + (16777216 * p4 + 65536 * p3 + 256 * p2 + p1) := by omega
    have c2 : a2 = 4294967296 * a6 + (16777216 * p5 + 65536 * p4 + 256 * p3 + p2) := by omega
    have c3 : a3 = 4294967296 * p7 + (16777216 * p6 + 65536 * p5 + 256 * p4 + p3) := by omega
    clear e0 e1 e2 e3 e4 e5 e6 d0 d1 d2 d3 d4 d5 d6 m0 m1 m2 m3 m4 m5 m6 m7 q1
    omega
  constructor
  · have b1 : bs_ 8 a0 = p0 + (p1 + (p2 + (p3 + (p4 + (p5 + (p6 + p7)))))) := by
      simp only [bs_, d0, d1, d2, d3, d4, d5, d6, m0, m1, m2, m3, m4, m5, m6, m7, Nat.add_zero]
    rw [b1]
    unfold t3_
    rw [d0, q1, q2]
    clear q1 q2 d0 d1 d2 d3 d4 d5 d6
    omega
  · clear q1 q2 d0 d1 d2 d3 d4 d5 d6 m0 m1 m2 m3 m4 m5 m6 m7
    omega
theorem g_by_fin (n : Nat) : t3_ (g_by 8 n) % 128 = bs_ 8 (g_by 8 n) ∧ g_by 8 n < 2 ^ 60 := by
  obtain ⟨p0, p1, p2, p3, p4, p5, p6, p7, h0, h1, h2, h3, h4, h5, h6, h7, e⟩ := g_by8 n
  exact g_fin h0 h1 h2 h3 h4 h5 h6 h7 rfl rfl rfl rfl rfl rfl e
theorem lN_shr {n k : Nat} (hn : n < 2 ^ 64) (hk : k < 64) {p : Nat} (hp : 2 ^ k = p) : ((lN n).toUInt64 >>> ((nI k).toInt64.toUInt64 &&& Int64.toUInt64 63)).toInt64 = lN (n / p) := by rw [wb_shr hn hk, hp]
theorem f1_le (n : Nat) : f1_ 8 n ≤ n := Nat.sub_le _ _
theorem bc1_ (n : Nat) (h : n < 2 ^ 64) : bc1 (lN n) = lN (f1_ 8 n) := by
  unfold bc1
  have hc : (6148914691236517205 : Int64) = lN (mk_ 85 8) := by decide +kernel
  rw [lN_shr h (by decide) rfl, hc, wb_and (Nat.lt_of_le_of_lt (Nat.div_le_self _ _) h) (by decide +kernel)]
  exact lN_sub (Nat.le_trans Nat.and_le_left (Nat.div_le_self _ _))
theorem bc2_ (n : Nat) (h : n < 2 ^ 64) : bc2 (lN n) = lN (f2_ 8 n) := by
  unfold bc2
  have hc : (3689348814741910323 : Int64) = lN (mk_ 51 8) := by decide +kernel
  rw [lN_shr h (by decide) rfl, hc, wb_and (Nat.lt_of_le_of_lt (Nat.div_le_self _ _) h) (by decide +kernel), wb_and h (by decide +kernel), lN_add]
  rfl
theorem mk_lt (c : Nat) : mk_ 51 8 = 3689348814741910323 := by decide +kernel
theorem f2_lt (n : Nat) : f2_ 8 n < 2 ^ 63 := by
  have h1 : n &&& mk_ 51 8 ≤ mk_ 51 8 := Nat.and_le_right
  have h2 : n / 4 &&& mk_ 51 8 ≤ mk_ 51 8 := Nat.and_le_right
  have h3 := mk_lt 0
  unfold f2_
  omega
theorem bc3_ (n : Nat) (h : n < 2 ^ 63) : bc3 (lN n) = lN (f3_ 8 n) := by
  unfold bc3
  have hc : (1085102592571150095 : Int64) = lN (mk_ 15 8) := by decide +kernel
  rw [lN_shr (Nat.lt_trans h (by decide)) (by decide) rfl, hc, lN_add, wb_and (by omega) (by decide +kernel)]
  rfl
theorem bcI_n (n : Nat) (h : n < 2 ^ 64) : bcI (lN n) = nI (pcT n 64) := by
  unfold bcI
  rw [bc1_ n h, bc2_ _ (Nat.lt_of_le_of_lt (f1_le n) h), bc3_ _ (f2_lt _), (pc_all 8 n).2]
  obtain ⟨e1, e2⟩ := g_by_fin n
  have e3 := bs_g 8 n
  rw [show 8 * 8 = 64 from rfl] at e3
  generalize g_by 8 n = s at e1 e2 e3
  have q1 : bc4 (lN s) = lN (s + s / 256) := by
    unfold bc4
    rw [lN_shr (by omega) (by decide) rfl, lN_add]
  have q2 : bc5 (lN (s + s / 256)) = lN (s + s / 256 + (s + s / 256) / 65536) := by
    unfold bc5
    rw [lN_shr (by omega) (by decide) rfl, lN_add]
  have q3 : bc6 (lN (s + s / 256 + (s + s / 256) / 65536)) = lN (t3_ s) := by
    unfold bc6
    rw [lN_shr (by omega) (by decide) rfl, lN_add]
    rfl
  rw [q1, q2, q3, lN_i]
  have q4 := pk_and (nI (t3_ s)) (m := nI 127) 7 (by decide)
  rw [q4]
  have q5 : (nI (t3_ s)).toBitVec.toNat = t3_ s % 2 ^ 32 := by
    show (BitVec.ofNat 32 (t3_ s)).toNat = _
    rw [BitVec.toNat_ofNat]
  rw [q5, ← e3, ← e1]
  congr 1
  omega
/-- the pages of a set -/
def pcN (b : Nat → Bool) : Nat → Nat
  | 0 => 0
  | n + 1 => pcN b n + (if b n then 1 else 0)
theorem pcT_en (b : Nat → Bool) (m : Nat) : ∀ w, w ≤ m → pcT (enN b m) w = pcN b w
  | 0, _ => rfl
  | w + 1, h => by
    have ih := pcT_en b m w (by omega)
    have h2 : w < m := h
    show pcT (enN b m) w + (if (enN b m).testBit w then 1 else 0) = pcN b w + (if b w then 1 else 0)
    rw [ih, enN_tb]
    simp [h2]
theorem bcI_en (b : Nat → Bool) : bcI (en b) = nI (pcN b 64) := by
  unfold en
  rw [bcI_n _ (enN_64 b), pcT_en b 64 64 (Nat.le_refl _)]
end
section
section CM
variable {l : Launch} {D : va_G} {A : Nat → Prop} {ad : Nat → Nat} {cI cQ cZ : ClassId} {run : Nat → Bool} {mp : Nat → Nat → Bool} {fr : Nat → Nat → Nat} {kd : Nat → Nat → Int32} {wd ct : Nat → Int32} {af cf : Int32}
set_option maxHeartbeats 4000000 in
set_option maxRecDepth 100000 in
theorem fm_has_t {j k : Nat} (hj : j < 5) (hk : k < 64) (h : mp j k = true) : gM l yX0_has cX0_has 2 (some .boolean) 0 0 D cls (fpT cI cQ cZ) A (fpW ad cI cQ run mp fr kd wd ct af cf) [.ref (ad (5 + 3 * j)), .int (nI k)] (some (.int 1)) (fpW ad cI cQ run mp fr kd wd ct af cf) := by
  refine gM_of (by decide) (Nat.le_of_ble_eq_true rfl) ?_
  intro p e s m args below meth c ls hx hb hml hown hts hN hr hlk hl hG
  have hown : s.vm.findClass RX0 = some m.cls := hown
  have hl : lv_has ls 2 [(0, .ref (ad (5 + 3 * j))), (1, .int (nI k))] := hl
  refine lv_aload_n hx hb dX0_has_0 rfl (lv_at hl 0 rfl) ?_
  refine g_get (k := 1) (v := .long (en (mp j))) (C := RX0) (ref := RX0) (fs := [.int (bI (run j)), .long (en (mp j)), .ref (ad (6 + 3 * j)), .ref (ad (7 + 3 * j))]) hx hb hown hts hG gX0 rfl (fp_5 (hj)) (by decide) t_22 rfl rfl dX0_has_1 ?_
  refine lv_iload_n hx hb dX0_has_4 rfl (lv_at hl 1 rfl) ?_
  refine lv_lushr (v := ((en (mp j)).toUInt64 >>> ((nI k).toInt64.toUInt64 &&& Int64.toUInt64 63)).toInt64) hx hb dX0_has_5 rfl ?_
  refine lv_lconst (v := 1) hx hb dX0_has_6 (by decide) ?_
  refine lv_land hx hb dX0_has_7 ?_
  refine g_topl (y := 1) (by rw [en_bit _ hk, h]; rfl) ?_
  refine lv_lconst (v := 0) hx hb dX0_has_8 (by decide) ?_
  refine W.lcmp hx hb dX0_has_9 ?_
  refine lv_if_eq (tgt := 17) hx hb dX0_has_10 rfl (fun hh => absurd hh (by decide)) (fun _ => ?_)
  refine lv_iconst (v := 1) hx hb dX0_has_13 (by decide) ?_
  refine lv_goto (tgt := 18) hx hb dX0_has_14 rfl ?_
  exact g_zret hx hb hr (rfl) hlk hG dX0_has_18
set_option maxHeartbeats 4000000 in
set_option maxRecDepth 100000 in
theorem fm_has_f {j k : Nat} (hj : j < 5) (hk : k < 64) (h : mp j k = false) : gM l yX0_has cX0_has 2 (some .boolean) 0 0 D cls (fpT cI cQ cZ) A (fpW ad cI cQ run mp fr kd wd ct af cf) [.ref (ad (5 + 3 * j)), .int (nI k)] (some (.int 0)) (fpW ad cI cQ run mp fr kd wd ct af cf) := by
  refine gM_of (by decide) (Nat.le_of_ble_eq_true rfl) ?_
  intro p e s m args below meth c ls hx hb hml hown hts hN hr hlk hl hG
  have hown : s.vm.findClass RX0 = some m.cls := hown
  have hl : lv_has ls 2 [(0, .ref (ad (5 + 3 * j))), (1, .int (nI k))] := hl
  refine lv_aload_n hx hb dX0_has_0 rfl (lv_at hl 0 rfl) ?_
  refine g_get (k := 1) (v := .long (en (mp j))) (C := RX0) (ref := RX0) (fs := [.int (bI (run j)), .long (en (mp j)), .ref (ad (6 + 3 * j)), .ref (ad (7 + 3 * j))]) hx hb hown hts hG gX0 rfl (fp_5 (hj)) (by decide) t_22 rfl rfl dX0_has_1 ?_
  refine lv_iload_n hx hb dX0_has_4 rfl (lv_at hl 1 rfl) ?_
  refine lv_lushr (v := ((en (mp j)).toUInt64 >>> ((nI k).toInt64.toUInt64 &&& Int64.toUInt64 63)).toInt64) hx hb dX0_has_5 rfl ?_
  refine lv_lconst (v := 1) hx hb dX0_has_6 (by decide) ?_
  refine lv_land hx hb dX0_has_7 ?_
  refine g_topl (y := 0) (by rw [en_bit _ hk, h]; rfl) ?_
  refine lv_lconst (v := 0) hx hb dX0_has_8 (by decide) ?_
  refine W.lcmp hx hb dX0_has_9 ?_
  refine lv_if_eq (tgt := 17) hx hb dX0_has_10 rfl (fun _ => ?_) (fun hh => absurd (by decide) hh)
  refine lv_iconst (v := 0) hx hb dX0_has_17 (by decide) ?_
  exact g_zret hx hb hr (rfl) hlk hG dX0_has_18
set_option maxHeartbeats 4000000 in
set_option maxRecDepth 100000 in
theorem fm_is_t {j k : Nat} (hj : j < 5) (hk : k < 64) {part : Int32} (h : ¬ kd j k &&& part = 0) : gM l yX0_is cX0_is 3 (some .boolean) 0 0 D cls (fpT cI cQ cZ) A (fpW ad cI cQ run mp fr kd wd ct af cf) [.ref (ad (5 + 3 * j)), .int part, .int (nI k)] (some (.int 1)) (fpW ad cI cQ run mp fr kd wd ct af cf) := by
  refine gM_of (by decide) (Nat.le_of_ble_eq_true rfl) ?_
  intro p e s m args below meth c ls hx hb hml hown hts hN hr hlk hl hG
  have hown : s.vm.findClass RX0 = some m.cls := hown
  have hl : lv_has ls 3 [(0, .ref (ad (5 + 3 * j))), (1, .int part), (2, .int (nI k))] := hl
  refine lv_aload_n hx hb dX0_is_0 rfl (lv_at hl 0 rfl) ?_
  refine g_get (k := 3) (v := .ref (ad (7 + 3 * j))) (C := RX0) (ref := RX0) (fs := [.int (bI (run j)), .long (en (mp j)), .ref (ad (6 + 3 * j)), .ref (ad (7 + 3 * j))]) hx hb hown hts hG gX0 rfl (fp_5 (hj)) (by decide) t_26 rfl rfl dX0_is_1 ?_
  refine lv_iload_n hx hb dX0_is_4 rfl (lv_at hl 2 rfl) ?_
  refine g_iald (i := k) (t0 := 0) hx hb hG (fp_7 (hj)) rfl (hk) (by decide) dX0_is_5 ?_
  refine lv_iload_n hx hb dX0_is_6 rfl (lv_at hl 1 rfl) ?_
  refine lv_iand hx hb dX0_is_7 ?_
  refine lv_if_eq (tgt := 15) hx hb dX0_is_8 rfl (fun hh => absurd hh (h)) (fun _ => ?_)
  refine lv_iconst (v := 1) hx hb dX0_is_11 (by decide) ?_
  refine lv_goto (tgt := 16) hx hb dX0_is_12 rfl ?_
  exact g_zret hx hb hr (rfl) hlk hG dX0_is_16
set_option maxHeartbeats 4000000 in
set_option maxRecDepth 100000 in
theorem fm_is_f {j k : Nat} (hj : j < 5) (hk : k < 64) {part : Int32} (h : kd j k &&& part = 0) : gM l yX0_is cX0_is 3 (some .boolean) 0 0 D cls (fpT cI cQ cZ) A (fpW ad cI cQ run mp fr kd wd ct af cf) [.ref (ad (5 + 3 * j)), .int part, .int (nI k)] (some (.int 0)) (fpW ad cI cQ run mp fr kd wd ct af cf) := by
  refine gM_of (by decide) (Nat.le_of_ble_eq_true rfl) ?_
  intro p e s m args below meth c ls hx hb hml hown hts hN hr hlk hl hG
  have hown : s.vm.findClass RX0 = some m.cls := hown
  have hl : lv_has ls 3 [(0, .ref (ad (5 + 3 * j))), (1, .int part), (2, .int (nI k))] := hl
  refine lv_aload_n hx hb dX0_is_0 rfl (lv_at hl 0 rfl) ?_
  refine g_get (k := 3) (v := .ref (ad (7 + 3 * j))) (C := RX0) (ref := RX0) (fs := [.int (bI (run j)), .long (en (mp j)), .ref (ad (6 + 3 * j)), .ref (ad (7 + 3 * j))]) hx hb hown hts hG gX0 rfl (fp_5 (hj)) (by decide) t_26 rfl rfl dX0_is_1 ?_
  refine lv_iload_n hx hb dX0_is_4 rfl (lv_at hl 2 rfl) ?_
  refine g_iald (i := k) (t0 := 0) hx hb hG (fp_7 (hj)) rfl (hk) (by decide) dX0_is_5 ?_
  refine lv_iload_n hx hb dX0_is_6 rfl (lv_at hl 1 rfl) ?_
  refine lv_iand hx hb dX0_is_7 ?_
  refine lv_if_eq (tgt := 15) hx hb dX0_is_8 rfl (fun _ => ?_) (fun hh => absurd (h) hh)
  refine lv_iconst (v := 0) hx hb dX0_is_15 (by decide) ?_
  exact g_zret hx hb hr (rfl) hlk hG dX0_is_16
set_option maxHeartbeats 4000000 in
set_option maxRecDepth 100000 in
theorem fm_turn {j k : Nat} (hj : j < 5) (hk : k < 64) {part : Int32} : gM l yX0_turn cX0_turn 3 none 0 0 D cls (fpT cI cQ cZ) A (fpW ad cI cQ run mp fr kd wd ct af cf) [.ref (ad (5 + 3 * j)), .int part, .int (nI k)] none (fpW ad cI cQ run mp fr (up1 kd j (upd (kd j) k (kd j k ^^^ part))) wd ct af cf) := by
  refine gM_of (by decide) (Nat.le_of_ble_eq_true rfl) ?_
  intro p e s m args below meth c ls hx hb hml hown hts hN hr hlk hl hG
  have hown : s.vm.findClass RX0 = some m.cls := hown
  have hl : lv_has ls 3 [(0, .ref (ad (5 + 3 * j))), (1, .int part), (2, .int (nI k))] := hl
  refine lv_aload_n hx hb dX0_turn_0 rfl (lv_at hl 0 rfl) ?_
  refine g_get (k := 3) (v := .ref (ad (7 + 3 * j))) (C := RX0) (ref := RX0) (fs := [.int (bI (run j)), .long (en (mp j)), .ref (ad (6 + 3 * j)), .ref (ad (7 + 3 * j))]) hx hb hown hts hG gX0 rfl (fp_5 (hj)) (by decide) t_26 rfl rfl dX0_turn_1 ?_
  refine lv_iload_n hx hb dX0_turn_4 rfl (lv_at hl 2 rfl) ?_
  refine lv_dup2_11 hx hb dX0_turn_5 rfl rfl ?_
  refine g_iald (i := k) (t0 := 0) hx hb hG (fp_7 (hj)) rfl (hk) (by decide) dX0_turn_6 ?_
  refine lv_iload_n hx hb dX0_turn_7 rfl (lv_at hl 1 rfl) ?_
  refine lv_ixor hx hb dX0_turn_8 ?_
  refine g_iast (i := k) (x := (kd j k) ^^^ part) (t0 := 0) (ws' := fpW ad cI cQ run mp fr (up1 kd j (upd (kd j) k (kd j k ^^^ part))) wd ct af cf) hx hb hG (fp_7 (hj)) rfl (hk) (by decide) (fp_s7 hj _) dX0_turn_9 (fun H locs hG => ?_)
  exact g_vret hx hb hr hlk hG dX0_turn_10
set_option maxHeartbeats 4000000 in
set_option maxRecDepth 100000 in
theorem fm_set {j k : Nat} (hj : j < 5) (hk : k < 64) {f : Nat} {v : Int32} : gM l yX0_set cX0_set 4 none 0 0 D cls (fpT cI cQ cZ) A (fpW ad cI cQ run mp fr kd wd ct af cf) [.ref (ad (5 + 3 * j)), .int (nI k), .int (nI f), .int v] none (fpW ad cI cQ run (up1 mp j (up1 (mp j) k true)) (up1 fr j (up1 (fr j) k f)) (up1 kd j (upd (kd j) k v)) wd ct af cf) := by
  refine gM_of (by decide) (Nat.le_of_ble_eq_true rfl) ?_
  intro p e s m args below meth c ls hx hb hml hown hts hN hr hlk hl hG
  have hown : s.vm.findClass RX0 = some m.cls := hown
  have hl : lv_has ls 4 [(0, .ref (ad (5 + 3 * j))), (1, .int (nI k)), (2, .int (nI f)), (3, .int v)] := hl
  refine lv_aload_n hx hb dX0_set_0 rfl (lv_at hl 0 rfl) ?_
  refine lv_dup hx hb dX0_set_1 rfl ?_
  refine g_get (k := 1) (v := .long (en (mp j))) (C := RX0) (ref := RX0) (fs := [.int (bI (run j)), .long (en (mp j)), .ref (ad (6 + 3 * j)), .ref (ad (7 + 3 * j))]) hx hb hown hts hG gX0 rfl (fp_5 (hj)) (by decide) t_22 rfl rfl dX0_set_2 ?_
  refine lv_lconst (v := 1) hx hb dX0_set_5 (by decide) ?_
  refine lv_iload_n hx hb dX0_set_6 rfl (lv_at hl 1 rfl) ?_
  refine lv_lshl (v := 1 <<< ((nI k).toInt64 &&& 63)) hx hb dX0_set_7 rfl ?_
  refine lv_lor hx hb dX0_set_8 ?_
  refine g_topl (y := en (up1 (mp j) k true)) (en_set _ hk) ?_
  refine g_put (k := 1) (v := .long (en (up1 (mp j) k true))) (C := RX0) (ref := RX0) (ty := .long) (fs := [.int (bI (run j)), .long (en (mp j)), .ref (ad (6 + 3 * j)), .ref (ad (7 + 3 * j))]) (ws' := fpW ad cI cQ run (up1 mp j (up1 (mp j) k true)) fr kd wd ct af cf) tyX0 tyX0_ok nmX0 hx hb hown hts hG gX0 rfl (fp_5 (hj)) (by decide) t_22 rfl rfl (by decide +kernel) rfl rfl (Nat.le_of_ble_eq_true rfl) (fp_s5m hj _) dX0_set_9 (fun H locs hG => ?_)
  refine lv_aload_n hx hb dX0_set_12 rfl (lv_at hl 0 rfl) ?_
  refine g_get (k := 2) (v := .ref (ad (6 + 3 * j))) (C := RX0) (ref := RX0) (fs := [.int (bI (run j)), .long (en ((up1 mp j (up1 (mp j) k true)) j)), .ref (ad (6 + 3 * j)), .ref (ad (7 + 3 * j))]) hx hb hown hts hG gX0 rfl (fp_5 (hj)) (by decide) t_24 rfl rfl dX0_set_13 ?_
  refine lv_iload_n hx hb dX0_set_16 rfl (lv_at hl 1 rfl) ?_
  refine lv_iload_n hx hb dX0_set_17 rfl (lv_at hl 2 rfl) ?_
  refine g_iast (i := k) (x := nI f) (t0 := 0) (ws' := fpW ad cI cQ run (up1 mp j (up1 (mp j) k true)) (up1 fr j (up1 (fr j) k f)) kd wd ct af cf) hx hb hG (fp_6 (hj)) rfl (hk) (by decide) (fp_s6u hj k f) dX0_set_18 (fun H locs hG => ?_)
  refine lv_aload_n hx hb dX0_set_19 rfl (lv_at hl 0 rfl) ?_
  refine g_get (k := 3) (v := .ref (ad (7 + 3 * j))) (C := RX0) (ref := RX0) (fs := [.int (bI (run j)), .long (en ((up1 mp j (up1 (mp j) k true)) j)), .ref (ad (6 + 3 * j)), .ref (ad (7 + 3 * j))]) hx hb hown hts hG gX0 rfl (fp_5 (hj)) (by decide) t_26 rfl rfl dX0_set_20 ?_
  refine lv_iload_n hx hb dX0_set_23 rfl (lv_at hl 1 rfl) ?_
  refine lv_iload_n hx hb dX0_set_24 rfl (lv_at hl 3 rfl) ?_
  refine g_iast (i := k) (x := v) (t0 := 0) (ws' := fpW ad cI cQ run (up1 mp j (up1 (mp j) k true)) (up1 fr j (up1 (fr j) k f)) (up1 kd j (upd (kd j) k v)) wd ct af cf) hx hb hG (fp_7 (hj)) rfl (hk) (by decide) (fp_s7 hj _) dX0_set_25 (fun H locs hG => ?_)
  exact g_vret hx hb hr hlk hG dX0_set_26
set_option maxHeartbeats 4000000 in
set_option maxRecDepth 100000 in
theorem fm_clear {j k : Nat} (hj : j < 5) (hk : k < 64) : gM l yX0_clear cX0_clear 2 none 0 0 D cls (fpT cI cQ cZ) A (fpW ad cI cQ run mp fr kd wd ct af cf) [.ref (ad (5 + 3 * j)), .int (nI k)] none (fpW ad cI cQ run (up1 mp j (up1 (mp j) k false)) fr kd wd ct af cf) := by
  refine gM_of (by decide) (Nat.le_of_ble_eq_true rfl) ?_
  intro p e s m args below meth c ls hx hb hml hown hts hN hr hlk hl hG
  have hown : s.vm.findClass RX0 = some m.cls := hown
  have hl : lv_has ls 2 [(0, .ref (ad (5 + 3 * j))), (1, .int (nI k))] := hl
  refine lv_aload_n hx hb dX0_clear_0 rfl (lv_at hl 0 rfl) ?_
  refine lv_dup hx hb dX0_clear_1 rfl ?_
  refine g_get (k := 1) (v := .long (en (mp j))) (C := RX0) (ref := RX0) (fs := [.int (bI (run j)), .long (en (mp j)), .ref (ad (6 + 3 * j)), .ref (ad (7 + 3 * j))]) hx hb hown hts hG gX0 rfl (fp_5 (hj)) (by decide) t_22 rfl rfl dX0_clear_2 ?_
  refine lv_lconst (v := 1) hx hb dX0_clear_5 (by decide) ?_
  refine lv_iload_n hx hb dX0_clear_6 rfl (lv_at hl 1 rfl) ?_
  refine lv_lshl (v := 1 <<< ((nI k).toInt64 &&& 63)) hx hb dX0_clear_7 rfl ?_
  refine lv_ldc2 (v := -1) hx hb hown (hts _ t_137) dX0_clear_8 ?_
  refine lv_lxor hx hb dX0_clear_11 ?_
  refine lv_land hx hb dX0_clear_12 ?_
  refine g_topl (y := en (up1 (mp j) k false)) (en_clr _ hk) ?_
  refine g_put (k := 1) (v := .long (en (up1 (mp j) k false))) (C := RX0) (ref := RX0) (ty := .long) (fs := [.int (bI (run j)), .long (en (mp j)), .ref (ad (6 + 3 * j)), .ref (ad (7 + 3 * j))]) (ws' := fpW ad cI cQ run (up1 mp j (up1 (mp j) k false)) fr kd wd ct af cf) tyX0 tyX0_ok nmX0 hx hb hown hts hG gX0 rfl (fp_5 (hj)) (by decide) t_22 rfl rfl (by decide +kernel) rfl rfl (Nat.le_of_ble_eq_true rfl) (fp_s5m hj _) dX0_clear_13 (fun H locs hG => ?_)
  exact g_vret hx hb hr hlk hG dX0_clear_16
end CM
end
section
section CM
variable {l : Launch} {D : va_G} {A : Nat → Prop} {ad : Nat → Nat} {cI cQ cZ : ClassId} {run : Nat → Bool} {mp : Nat → Nat → Bool} {fr : Nat → Nat → Nat} {kd : Nat → Nat → Int32} {wd ct : Nat → Int32} {af cf : Int32}
set_option maxHeartbeats 4000000 in
set_option maxRecDepth 100000 in
theorem fm_usedFrames  : gM l yX1_usedFrames cX1_usedFrames 3 (some .int) 0 0 D cls (fpT cI cQ cZ) A (fpW ad cI cQ run mp fr kd wd ct af cf) [.ref (ad 2)] (some (.int (nI (usN ct 24)))) (fpW ad cI cQ run mp fr kd wd ct af cf) := by
  refine gM_of (by decide) (Nat.le_of_ble_eq_true rfl) ?_
  intro p e s m args below meth c ls hx hb hml hown hts hN hr hlk hl hG
  have hown : s.vm.findClass RX1 = some m.cls := hown
  have hl : lv_has ls 3 [(0, .ref (ad 2))] := hl
  refine lv_iconst (v := nI 0) hx hb dX1_usedFrames_0 (by decide) ?_
  refine lv_istore_n (lv' := [(1, .int (nI 0)), (0, .ref (ad 2))]) hx hb dX1_usedFrames_1 rfl hl (by decide) rfl (fun ls hl => ?_)
  refine lv_iconst (v := nI 0) hx hb dX1_usedFrames_2 (by decide) ?_
  refine lv_istore_n (lv' := [(2, .int (nI 0)), (1, .int (nI 0)), (0, .ref (ad 2))]) hx hb dX1_usedFrames_3 rfl hl (by decide) rfl (fun ls hl => ?_)
  have loop : ∀ (n i : Nat) (ls : Array Slot), i + n = 24 → lv_has ls 3 [(2, .int (nI i)), (1, .int (nI (usN ct i))), (0, .ref (ad 2))] → W p l e (gR 0 0) s m args below meth c s.heap [] 0 0 (gQ below args s D cls (fpT cI cQ cZ) A (some (.int (nI (usN ct 24)))) (fpW ad cI cQ run mp fr kd wd ct af cf)) (F0 m 4 ls []) := by
    intro n
    induction n with
    | zero =>
      intro i ls hi hl
      obtain rfl : i = 24 := by omega
      refine lv_iload_n hx hb dX1_usedFrames_4 rfl (lv_at hl 0 rfl) ?_
      refine lv_bipush (v := nI 24) hx hb dX1_usedFrames_5 (by decide) ?_
      refine lv_icmp_ge (tgt := 28) hx hb dX1_usedFrames_7 rfl (fun _ => ?_) (fun hh => absurd (nI_le (Nat.le_refl 24) (by decide)) hh)
      refine lv_iload_n hx hb dX1_usedFrames_28 rfl (lv_at hl 1 rfl) ?_
      exact g_iret hx hb hr hlk hG dX1_usedFrames_29
    | succ n ih =>
      intro i ls hi hl
      have hi2 : i < 24 := by omega
      refine lv_iload_n hx hb dX1_usedFrames_4 rfl (lv_at hl 0 rfl) ?_
      refine lv_bipush (v := nI 24) hx hb dX1_usedFrames_5 (by decide) ?_
      refine lv_icmp_ge (tgt := 28) hx hb dX1_usedFrames_7 rfl (fun hh => absurd hh (nI_ge hi2 (by decide))) (fun _ => ?_)
      refine lv_aload_n hx hb dX1_usedFrames_10 rfl (lv_at hl 2 rfl) ?_
      refine g_get (k := 1) (v := .ref (ad 4)) (C := RX1) (ref := RX1) (fs := [.ref (ad 3), .ref (ad 4)]) hx hb hown hts hG gX1 rfl fp_2 (by decide) t_46 rfl rfl dX1_usedFrames_11 ?_
      refine lv_iload_n hx hb dX1_usedFrames_14 rfl (lv_at hl 0 rfl) ?_
      refine g_iald (i := i) (t0 := 0) hx hb hG fp_4 rfl (hi2) (by decide) dX1_usedFrames_15 ?_
      by_cases hc : 0 < ct i
      · have hu : usN ct (i + 1) = usN ct i + 1 := by simp [usN, hc]
        refine lv_if_le (tgt := 22) hx hb dX1_usedFrames_16 rfl (fun hh => absurd hh (Int32.not_le.mpr hc)) (fun _ => ?_)
        refine lv_iinc (k := 1) (v := nI (usN ct (i + 1))) (lv' := [(1, .int (nI (usN ct (i + 1)))), (2, .int (nI i)), (0, .ref (ad 2))]) hx hb dX1_usedFrames_19 hl rfl (by rw [hu]; exact nI_1 _) (by decide) rfl (fun ls hl => ?_)
        refine lv_iinc (k := 1) (v := nI (i + 1)) (lv' := [(2, .int (nI (i + 1))), (1, .int (nI (usN ct (i + 1)))), (0, .ref (ad 2))]) hx hb dX1_usedFrames_22 hl rfl (nI_1 i) (by decide) rfl (fun ls hl => ?_)
        refine lv_goto (tgt := 4) hx hb dX1_usedFrames_25 rfl ?_
        exact ih (i + 1) _ (by omega) (lv_sub hl [0, 1, 2] rfl)
      · have hu : usN ct (i + 1) = usN ct i := by simp [usN, hc]
        refine lv_if_le (tgt := 22) hx hb dX1_usedFrames_16 rfl (fun _ => ?_) (fun hh => absurd (Int32.not_lt.mp hc) hh)
        refine lv_iinc (k := 0) (v := nI (i + 1)) (lv' := [(2, .int (nI (i + 1))), (1, .int (nI (usN ct i))), (0, .ref (ad 2))]) hx hb dX1_usedFrames_22 hl rfl (nI_1 i) (by decide) rfl (fun ls hl => ?_)
        refine lv_goto (tgt := 4) hx hb dX1_usedFrames_25 rfl ?_
        exact ih (i + 1) _ (by omega) (by rw [hu]; exact lv_sub hl [0, 1, 2] rfl)
  exact loop 24 0 _ rfl (lv_sub hl [0, 1, 2] rfl)
set_option maxHeartbeats 4000000 in
set_option maxRecDepth 100000 in
theorem fm_unusedFrame  : gM l yX1_unusedFrame cX1_unusedFrame 3 (some .int) 0 0 D cls (fpT cI cQ cZ) A (fpW ad cI cQ run mp fr kd wd ct af cf) [.ref (ad 2)] (some (.int (nI (unF ct 24)))) (fpW ad cI cQ run mp fr kd wd ct af cf) := by
  refine gM_of (by decide) (Nat.le_of_ble_eq_true rfl) ?_
  intro p e s m args below meth c ls hx hb hml hown hts hN hr hlk hl hG
  have hown : s.vm.findClass RX1 = some m.cls := hown
  have hl : lv_has ls 3 [(0, .ref (ad 2))] := hl
  refine lv_iconst (v := nI 0) hx hb dX1_unusedFrame_0 (by decide) ?_
  refine lv_istore_n (lv' := [(1, .int (nI 0)), (0, .ref (ad 2))]) hx hb dX1_unusedFrame_1 rfl hl (by decide) rfl (fun ls hl => ?_)
  refine lv_iconst (v := nI 0) hx hb dX1_unusedFrame_2 (by decide) ?_
  refine lv_istore_n (lv' := [(2, .int (nI 0)), (1, .int (nI 0)), (0, .ref (ad 2))]) hx hb dX1_unusedFrame_3 rfl hl (by decide) rfl (fun ls hl => ?_)
  have loop : ∀ (n i : Nat) (ls : Array Slot), i + n = 24 → lv_has ls 3 [(2, .int (nI i)), (1, .int (nI (unF ct i))), (0, .ref (ad 2))] → W p l e (gR 0 0) s m args below meth c s.heap [] 0 0 (gQ below args s D cls (fpT cI cQ cZ) A (some (.int (nI (unF ct 24)))) (fpW ad cI cQ run mp fr kd wd ct af cf)) (F0 m 4 ls []) := by
    intro n
    induction n with
    | zero =>
      intro i ls hi hl
      obtain rfl : i = 24 := by omega
      refine lv_iload_n hx hb dX1_unusedFrame_4 rfl (lv_at hl 0 rfl) ?_
      refine lv_bipush (v := nI 24) hx hb dX1_unusedFrame_5 (by decide) ?_
      refine lv_icmp_ge (tgt := 27) hx hb dX1_unusedFrame_7 rfl (fun _ => ?_) (fun hh => absurd (nI_le (Nat.le_refl 24) (by decide)) hh)
      refine lv_iload_n hx hb dX1_unusedFrame_27 rfl (lv_at hl 1 rfl) ?_
      exact g_iret hx hb hr hlk hG dX1_unusedFrame_28
    | succ n ih =>
      intro i ls hi hl
      have hi2 : i < 24 := by omega
      refine lv_iload_n hx hb dX1_unusedFrame_4 rfl (lv_at hl 0 rfl) ?_
      refine lv_bipush (v := nI 24) hx hb dX1_unusedFrame_5 (by decide) ?_
      refine lv_icmp_ge (tgt := 27) hx hb dX1_unusedFrame_7 rfl (fun hh => absurd hh (nI_ge hi2 (by decide))) (fun _ => ?_)
      refine lv_aload_n hx hb dX1_unusedFrame_10 rfl (lv_at hl 2 rfl) ?_
      refine g_get (k := 1) (v := .ref (ad 4)) (C := RX1) (ref := RX1) (fs := [.ref (ad 3), .ref (ad 4)]) hx hb hown hts hG gX1 rfl fp_2 (by decide) t_46 rfl rfl dX1_unusedFrame_11 ?_
      refine lv_iload_n hx hb dX1_unusedFrame_14 rfl (lv_at hl 0 rfl) ?_
      refine g_iald (i := i) (t0 := 0) hx hb hG fp_4 rfl (hi2) (by decide) dX1_unusedFrame_15 ?_
      by_cases hc : ct i = 0
      · have hu : unF ct (i + 1) = i := by simp [unF, hc]
        refine lv_if_ne (tgt := 21) hx hb dX1_unusedFrame_16 rfl (fun hh => absurd (hc) hh) (fun _ => ?_)
        refine lv_iload_n hx hb dX1_unusedFrame_19 rfl (lv_at hl 0 rfl) ?_
        refine lv_istore_n (lv' := [(1, .int (nI i)), (2, .int (nI i)), (0, .ref (ad 2))]) hx hb dX1_unusedFrame_20 rfl hl (by decide) rfl (fun ls hl => ?_)
        refine lv_iinc (k := 1) (v := nI (i + 1)) (lv' := [(2, .int (nI (i + 1))), (1, .int (nI i)), (0, .ref (ad 2))]) hx hb dX1_unusedFrame_21 hl rfl (nI_1 i) (by decide) rfl (fun ls hl => ?_)
        refine lv_goto (tgt := 4) hx hb dX1_unusedFrame_24 rfl ?_
        exact ih (i + 1) _ (by omega) (by rw [hu]; exact lv_sub hl [0, 1, 2] rfl)
      · have hu : unF ct (i + 1) = unF ct i := by simp [unF, hc]
        refine lv_if_ne (tgt := 21) hx hb dX1_unusedFrame_16 rfl (fun _ => ?_) (fun hh => absurd hh (hc))
        refine lv_iinc (k := 0) (v := nI (i + 1)) (lv' := [(2, .int (nI (i + 1))), (1, .int (nI (unF ct i))), (0, .ref (ad 2))]) hx hb dX1_unusedFrame_21 hl rfl (nI_1 i) (by decide) rfl (fun ls hl => ?_)
        refine lv_goto (tgt := 4) hx hb dX1_unusedFrame_24 rfl ?_
        exact ih (i + 1) _ (by omega) (by rw [hu]; exact lv_sub hl [0, 1, 2] rfl)
  exact loop 24 0 _ rfl (lv_sub hl [0, 1, 2] rfl)
def blN (wd : Nat → Int32) (f w : Nat) : Nat → Int32 := fun i => if f * 4 ≤ i ∧ i < f * 4 + w then 0 else wd i
def blW (wd : Nat → Int32) (f : Nat) : Nat → Int32 := blN wd f 4
theorem blN_0 (wd : Nat → Int32) (f : Nat) : blN wd f 0 = wd := by
  funext i
  have h : ¬ (f * 4 ≤ i ∧ i < f * 4 + 0) := by omega
  simp only [blN, if_neg h]
theorem blN_s (wd : Nat → Int32) (f w : Nat) : upd (blN wd f w) (f * 4 + w) 0 = blN wd f (w + 1) := by
  funext i
  by_cases h : i = f * 4 + w
  · have h2 : f * 4 ≤ i ∧ i < f * 4 + (w + 1) := by omega
    simp only [upd, blN, if_pos h, if_pos h2]
  · by_cases h3 : f * 4 ≤ i ∧ i < f * 4 + w
    · have h2 : f * 4 ≤ i ∧ i < f * 4 + (w + 1) := by omega
      simp only [upd, blN, if_neg h, if_pos h3, if_pos h2]
    · have h2 : ¬ (f * 4 ≤ i ∧ i < f * 4 + (w + 1)) := by omega
      simp only [upd, blN, if_neg h, if_neg h3, if_neg h2]
def cpN (wd : Nat → Int32) (a b w : Nat) : Nat → Int32 := fun i => if b * 4 ≤ i ∧ i < b * 4 + w then wd (a * 4 + (i - b * 4)) else wd i
def cpW (wd : Nat → Int32) (a b : Nat) : Nat → Int32 := cpN wd a b 4
theorem cpN_0 (wd : Nat → Int32) (a b : Nat) : cpN wd a b 0 = wd := by
  funext i
  have h : ¬ (b * 4 ≤ i ∧ i < b * 4 + 0) := by omega
  simp only [cpN, if_neg h]
theorem cpN_r (wd : Nat → Int32) (a b w : Nat) (hw : w < 4) : cpN wd a b w (a * 4 + w) = wd (a * 4 + w) := by
  by_cases h : b * 4 ≤ a * 4 + w ∧ a * 4 + w < b * 4 + w
  · omega
  · simp only [cpN, if_neg h]
theorem cpN_s (wd : Nat → Int32) (a b w : Nat) (hw : w < 4) : upd (cpN wd a b w) (b * 4 + w) (cpN wd a b w (a * 4 + w)) = cpN wd a b (w + 1) := by
  rw [cpN_r wd a b w hw]
  funext i
  by_cases h : i = b * 4 + w
  · subst h
    have h2 : b * 4 ≤ b * 4 + w ∧ b * 4 + w < b * 4 + (w + 1) := by omega
    have h3 : b * 4 + w - b * 4 = w := by omega
    simp only [upd, cpN, if_pos h2, h3, if_pos]
  · by_cases h3 : b * 4 ≤ i ∧ i < b * 4 + w
    · have h2 : b * 4 ≤ i ∧ i < b * 4 + (w + 1) := by omega
      simp only [upd, cpN, if_neg h, if_pos h3, if_pos h2]
    · have h2 : ¬ (b * 4 ≤ i ∧ i < b * 4 + (w + 1)) := by omega
      simp only [upd, cpN, if_neg h, if_neg h3, if_neg h2]
set_option maxHeartbeats 4000000 in
set_option maxRecDepth 100000 in
theorem fm_blank {f : Nat} (hf : f < 24) : gM l yX1_blank cX1_blank 3 none 0 0 D cls (fpT cI cQ cZ) A (fpW ad cI cQ run mp fr kd wd ct af cf) [.ref (ad 2), .int (nI f)] none (fpW ad cI cQ run mp fr kd (blW wd f) ct af cf) := by
  refine gM_of (by decide) (Nat.le_of_ble_eq_true rfl) ?_
  intro p e s m args below meth c ls hx hb hml hown hts hN hr hlk hl hG
  have hown : s.vm.findClass RX1 = some m.cls := hown
  have hl : lv_has ls 3 [(0, .ref (ad 2)), (1, .int (nI f))] := hl
  refine lv_iconst (v := nI 0) hx hb dX1_blank_0 (by decide) ?_
  refine lv_istore_n (lv' := [(2, .int (nI 0)), (0, .ref (ad 2)), (1, .int (nI f))]) hx hb dX1_blank_1 rfl hl (by decide) rfl (fun ls hl => ?_)
  have loop : ∀ (n i : Nat) (H : Heap) (locs : List Loc) (ls : Array Slot), i + n = 4 → gG D cls (fpT cI cQ cZ) A s (fpW ad cI cQ run mp fr kd (blN wd f i) ct af cf) H locs → lv_has ls 3 [(2, .int (nI i)), (0, .ref (ad 2)), (1, .int (nI f))] → W p l e (gR 0 0) s m args below meth c H locs 0 0 (gQ below args s D cls (fpT cI cQ cZ) A none (fpW ad cI cQ run mp fr kd (blW wd f) ct af cf)) (F0 m 2 ls []) := by
    intro n
    induction n with
    | zero =>
      intro i H locs ls hi hG hl
      obtain rfl : i = 4 := by omega
      refine lv_iload_n hx hb dX1_blank_2 rfl (lv_at hl 0 rfl) ?_
      refine lv_iconst (v := nI 4) hx hb dX1_blank_3 (by decide) ?_
      refine lv_icmp_ge (tgt := 24) hx hb dX1_blank_4 rfl (fun _ => ?_) (fun hh => absurd (nI_le (Nat.le_refl 4) (by decide)) hh)
      exact g_vret hx hb hr hlk hG dX1_blank_24
    | succ n ih =>
      intro i H locs ls hi hG hl
      have hi2 : i < 4 := by omega
      refine lv_iload_n hx hb dX1_blank_2 rfl (lv_at hl 0 rfl) ?_
      refine lv_iconst (v := nI 4) hx hb dX1_blank_3 (by decide) ?_
      refine lv_icmp_ge (tgt := 24) hx hb dX1_blank_4 rfl (fun hh => absurd hh (nI_ge hi2 (by decide))) (fun _ => ?_)
      refine lv_aload_n hx hb dX1_blank_7 rfl (lv_at hl 1 rfl) ?_
      refine g_get (k := 0) (v := .ref (ad 3)) (C := RX1) (ref := RX1) (fs := [.ref (ad 3), .ref (ad 4)]) hx hb hown hts hG gX1 rfl fp_2 (by decide) t_44 rfl rfl dX1_blank_8 ?_
      refine lv_iload_n hx hb dX1_blank_11 rfl (lv_at hl 2 rfl) ?_
      refine lv_iconst (v := nI 4) hx hb dX1_blank_12 (by decide) ?_
      refine lv_imul hx hb dX1_blank_13 ?_
      refine g_top (y := nI (f * 4)) (pk_mul f 4) ?_
      refine lv_iload_n hx hb dX1_blank_14 rfl (lv_at hl 0 rfl) ?_
      refine lv_iadd hx hb dX1_blank_15 ?_
      refine g_top (y := nI (f * 4 + i)) (nI_add _ _) ?_
      refine lv_iconst (v := 0) hx hb dX1_blank_16 (by decide) ?_
      refine g_iast (i := (f * 4 + i)) (x := 0) (t0 := 0) (ws' := fpW ad cI cQ run mp fr kd (blN wd f (i + 1)) ct af cf) hx hb hG fp_3 rfl ((by omega)) (by decide) (by rw [blN_s]; exact fp_s3 _) dX1_blank_17 (fun H locs hG => ?_)
      refine lv_iinc (k := 0) (v := nI (i + 1)) (lv' := [(2, .int (nI (i + 1))), (0, .ref (ad 2)), (1, .int (nI f))]) hx hb dX1_blank_18 hl rfl (nI_1 i) (by decide) rfl (fun ls hl => ?_)
      refine lv_goto (tgt := 2) hx hb dX1_blank_21 rfl ?_
      exact ih (i + 1) _ _ _ (by omega) hG (lv_sub hl [0, 1, 2] rfl)
  exact loop 4 0 _ _ _ rfl (by rw [blN_0]; exact hG) (lv_sub hl [0, 1, 2] rfl)
set_option maxHeartbeats 4000000 in
set_option maxRecDepth 100000 in
theorem fm_copy {f g : Nat} (hf : f < 24) (hg : g < 24) : gM l yX1_copy cX1_copy 4 none 0 0 D cls (fpT cI cQ cZ) A (fpW ad cI cQ run mp fr kd wd ct af cf) [.ref (ad 2), .int (nI f), .int (nI g)] none (fpW ad cI cQ run mp fr kd (cpW wd f g) ct af cf) := by
  refine gM_of (by decide) (Nat.le_of_ble_eq_true rfl) ?_
  intro p e s m args below meth c ls hx hb hml hown hts hN hr hlk hl hG
  have hown : s.vm.findClass RX1 = some m.cls := hown
  have hl : lv_has ls 4 [(0, .ref (ad 2)), (1, .int (nI f)), (2, .int (nI g))] := hl
  refine lv_iconst (v := nI 0) hx hb dX1_copy_0 (by decide) ?_
  refine lv_istore_n (lv' := [(3, .int (nI 0)), (0, .ref (ad 2)), (1, .int (nI f)), (2, .int (nI g))]) hx hb dX1_copy_1 rfl hl (by decide) rfl (fun ls hl => ?_)
  have loop : ∀ (n i : Nat) (H : Heap) (locs : List Loc) (ls : Array Slot), i + n = 4 → gG D cls (fpT cI cQ cZ) A s (fpW ad cI cQ run mp fr kd (cpN wd f g i) ct af cf) H locs → lv_has ls 4 [(3, .int (nI i)), (0, .ref (ad 2)), (1, .int (nI f)), (2, .int (nI g))] → W p l e (gR 0 0) s m args below meth c H locs 0 0 (gQ below args s D cls (fpT cI cQ cZ) A none (fpW ad cI cQ run mp fr kd (cpW wd f g) ct af cf)) (F0 m 2 ls []) := by
    intro n
    induction n with
    | zero =>
      intro i H locs ls hi hG hl
      obtain rfl : i = 4 := by omega
      refine lv_iload_n hx hb dX1_copy_2 rfl (lv_at hl 0 rfl) ?_
      refine lv_iconst (v := nI 4) hx hb dX1_copy_3 (by decide) ?_
      refine lv_icmp_ge (tgt := 33) hx hb dX1_copy_4 rfl (fun _ => ?_) (fun hh => absurd (nI_le (Nat.le_refl 4) (by decide)) hh)
      exact g_vret hx hb hr hlk hG dX1_copy_33
    | succ n ih =>
      intro i H locs ls hi hG hl
      have hi2 : i < 4 := by omega
      refine lv_iload_n hx hb dX1_copy_2 rfl (lv_at hl 0 rfl) ?_
      refine lv_iconst (v := nI 4) hx hb dX1_copy_3 (by decide) ?_
      refine lv_icmp_ge (tgt := 33) hx hb dX1_copy_4 rfl (fun hh => absurd hh (nI_ge hi2 (by decide))) (fun _ => ?_)
      refine lv_aload_n hx hb dX1_copy_7 rfl (lv_at hl 1 rfl) ?_
      refine g_get (k := 0) (v := .ref (ad 3)) (C := RX1) (ref := RX1) (fs := [.ref (ad 3), .ref (ad 4)]) hx hb hown hts hG gX1 rfl fp_2 (by decide) t_44 rfl rfl dX1_copy_8 ?_
      refine lv_iload_n hx hb dX1_copy_11 rfl (lv_at hl 3 rfl) ?_
      refine lv_iconst (v := nI 4) hx hb dX1_copy_12 (by decide) ?_
      refine lv_imul hx hb dX1_copy_13 ?_
      refine g_top (y := nI (g * 4)) (pk_mul g 4) ?_
      refine lv_iload_n hx hb dX1_copy_14 rfl (lv_at hl 0 rfl) ?_
      refine lv_iadd hx hb dX1_copy_15 ?_
      refine g_top (y := nI (g * 4 + i)) (nI_add _ _) ?_
      refine lv_aload_n hx hb dX1_copy_16 rfl (lv_at hl 1 rfl) ?_
      refine g_get (k := 0) (v := .ref (ad 3)) (C := RX1) (ref := RX1) (fs := [.ref (ad 3), .ref (ad 4)]) hx hb hown hts hG gX1 rfl fp_2 (by decide) t_44 rfl rfl dX1_copy_17 ?_
      refine lv_iload_n hx hb dX1_copy_20 rfl (lv_at hl 2 rfl) ?_
      refine lv_iconst (v := nI 4) hx hb dX1_copy_21 (by decide) ?_
      refine lv_imul hx hb dX1_copy_22 ?_
      refine g_top (y := nI (f * 4)) (pk_mul f 4) ?_
      refine lv_iload_n hx hb dX1_copy_23 rfl (lv_at hl 0 rfl) ?_
      refine lv_iadd hx hb dX1_copy_24 ?_
      refine g_top (y := nI (f * 4 + i)) (nI_add _ _) ?_
      refine g_iald (i := (f * 4 + i)) (t0 := 0) hx hb hG fp_3 rfl ((by omega)) (by decide) dX1_copy_25 ?_
      refine g_iast (i := (g * 4 + i)) (x := (cpN wd f g i) (f * 4 + i)) (t0 := 0) (ws' := fpW ad cI cQ run mp fr kd (cpN wd f g (i + 1)) ct af cf) hx hb hG fp_3 rfl ((by omega)) (by decide) (by rw [cpN_s wd f g i hi2]; exact fp_s3 _) dX1_copy_26 (fun H locs hG => ?_)
      refine lv_iinc (k := 0) (v := nI (i + 1)) (lv' := [(3, .int (nI (i + 1))), (0, .ref (ad 2)), (1, .int (nI f)), (2, .int (nI g))]) hx hb dX1_copy_27 hl rfl (nI_1 i) (by decide) rfl (fun ls hl => ?_)
      refine lv_goto (tgt := 2) hx hb dX1_copy_30 rfl ?_
      exact ih (i + 1) _ _ _ (by omega) hG (lv_sub hl [0, 1, 2, 3] rfl)
  exact loop 4 0 _ _ _ rfl (by rw [cpN_0]; exact hG) (lv_sub hl [0, 1, 2, 3] rfl)
end CM
end
section
section CM
variable {l : Launch} {D : va_G} {A : Nat → Prop} {ad : Nat → Nat} {cI cQ cZ : ClassId} {run : Nat → Bool} {mp : Nat → Nat → Bool} {fr : Nat → Nat → Nat} {kd : Nat → Nat → Int32} {wd ct : Nat → Int32} {af cf : Int32}
set_option maxHeartbeats 4000000 in
set_option maxRecDepth 100000 in
theorem fm_spansUsed {b : Nat → Bool} {n0 w : Nat} {ws : va_W} (hw0 : 0 < w) (hw : w < 63) (hnw : n0 * w ≤ 64) (hn : n0 ≤ 64) : gM l yX0_spansUsed cX0_spansUsed 8 (some .int) 0 0 D cls (fpT cI cQ cZ) A (ws) [.long (en b), .int (nI n0), .int (nI w)] (some (.int (nI (spU b w n0)))) (ws) := by
  refine gM_of (by decide) (Nat.le_of_ble_eq_true rfl) ?_
  intro p e s m args below meth c ls hx hb hml hown hts hN hr hlk hl hG
  have hown : s.vm.findClass RX0 = some m.cls := hown
  have hl : lv_has ls 8 [(0, .long (en b)), (2, .int (nI n0)), (3, .int (nI w))] := hl
  refine lv_lconst (v := 1) hx hb dX0_spansUsed_0 (by decide) ?_
  refine lv_iload_n hx hb dX0_spansUsed_1 rfl (lv_at hl 2 rfl) ?_
  refine lv_lshl (v := 1 <<< ((nI w).toInt64 &&& 63)) hx hb dX0_spansUsed_2 rfl ?_
  refine lv_lconst (v := 1) hx hb dX0_spansUsed_3 (by decide) ?_
  refine lv_lsub hx hb dX0_spansUsed_4 ?_
  refine g_topl (y := lN (2 ^ w - 1)) (en_mask hw) ?_
  refine lv_lstore (lv' := [(4, .long (lN (2 ^ w - 1))), (0, .long (en b)), (2, .int (nI n0)), (3, .int (nI w))]) hx hb dX0_spansUsed_5 hl (by decide) rfl (fun ls hl => ?_)
  refine lv_iconst (v := nI 0) hx hb dX0_spansUsed_7 (by decide) ?_
  refine lv_istore (lv' := [(6, .int (nI 0)), (4, .long (lN (2 ^ w - 1))), (0, .long (en b)), (2, .int (nI n0)), (3, .int (nI w))]) hx hb dX0_spansUsed_8 hl (by decide) rfl (fun ls hl => ?_)
  refine lv_iconst (v := nI 0) hx hb dX0_spansUsed_10 (by decide) ?_
  refine lv_istore (lv' := [(7, .int (nI 0)), (6, .int (nI 0)), (4, .long (lN (2 ^ w - 1))), (0, .long (en b)), (2, .int (nI n0)), (3, .int (nI w))]) hx hb dX0_spansUsed_11 hl (by decide) rfl (fun ls hl => ?_)
  have loop : ∀ (n i : Nat) (ls : Array Slot), i + n = n0 → lv_has ls 8 [(7, .int (nI i)), (6, .int (nI (spU b w i))), (4, .long (lN (2 ^ w - 1))), (0, .long (en b)), (2, .int (nI n0)), (3, .int (nI w))] → W p l e (gR 0 0) s m args below meth c s.heap [] 0 0 (gQ below args s D cls (fpT cI cQ cZ) A (some (.int (nI (spU b w n0)))) (ws)) (F0 m 13 ls []) := by
    intro n
    induction n with
    | zero =>
      intro i ls hi hl
      obtain rfl : i = n0 := by omega
      refine lv_iload hx hb dX0_spansUsed_13 (lv_at hl 0 rfl) ?_
      refine lv_iload_n hx hb dX0_spansUsed_15 rfl (lv_at hl 4 rfl) ?_
      refine lv_icmp_ge (tgt := 42) hx hb dX0_spansUsed_16 rfl (fun _ => ?_) (fun hh => absurd (nI_le (Nat.le_refl i) (by omega)) hh)
      refine lv_iload hx hb dX0_spansUsed_42 (lv_at hl 1 rfl) ?_
      exact g_iret hx hb hr hlk hG dX0_spansUsed_44
    | succ n ih =>
      intro i ls hi hl
      have hi2 : i < n0 := by omega
      have hiw : i * w + w ≤ 64 := by
        have h1 : (i + 1) * w ≤ n0 * w := Nat.mul_le_mul_right w hi2
        rw [Nat.add_mul, Nat.one_mul] at h1
        omega
      refine lv_iload hx hb dX0_spansUsed_13 (lv_at hl 0 rfl) ?_
      refine lv_iload_n hx hb dX0_spansUsed_15 rfl (lv_at hl 4 rfl) ?_
      refine lv_icmp_ge (tgt := 42) hx hb dX0_spansUsed_16 rfl (fun hh => absurd hh (nI_ge hi2 (by omega))) (fun _ => ?_)
      refine lv_lload_n hx hb dX0_spansUsed_19 rfl (lv_at hl 3 rfl) ?_
      refine lv_iload hx hb dX0_spansUsed_20 (lv_at hl 0 rfl) ?_
      refine lv_iload_n hx hb dX0_spansUsed_22 rfl (lv_at hl 5 rfl) ?_
      refine lv_imul hx hb dX0_spansUsed_23 ?_
      refine g_top (y := nI (i * w)) (pk_mul i w) ?_
      refine lv_lushr (v := ((en b).toUInt64 >>> ((nI (i * w)).toInt64.toUInt64 &&& Int64.toUInt64 63)).toInt64) hx hb dX0_spansUsed_24 rfl ?_
      refine lv_lload hx hb dX0_spansUsed_25 (lv_at hl 2 rfl) ?_
      refine lv_land hx hb dX0_spansUsed_27 ?_
      refine lv_lconst (v := 0) hx hb dX0_spansUsed_28 (by decide) ?_
      refine W.lcmp hx hb dX0_spansUsed_29 ?_
      cases hc : anB b (i * w) w
      · have hu : spU b w (i + 1) = spU b w i := by simp [spU, hc]
        have hz := (en_span b (a := i * w) (w := w) (by omega) hw hiw).mpr hc
        refine lv_if_eq (tgt := 36) hx hb dX0_spansUsed_30 rfl (fun _ => ?_) (fun hh => absurd ((lg_cmp_eq _ _).mpr hz) hh)
        refine lv_iinc (k := 0) (v := nI (i + 1)) (lv' := [(7, .int (nI (i + 1))), (6, .int (nI (spU b w i))), (4, .long (lN (2 ^ w - 1))), (0, .long (en b)), (2, .int (nI n0)), (3, .int (nI w))]) hx hb dX0_spansUsed_36 hl rfl (nI_1 i) (by decide) rfl (fun ls hl => ?_)
        refine lv_goto (tgt := 13) hx hb dX0_spansUsed_39 rfl ?_
        exact ih (i + 1) _ (by omega) (by rw [hu]; exact lv_sub hl [0, 1, 2, 3, 4, 5] rfl)
      · have hu : spU b w (i + 1) = spU b w i + 1 := by simp [spU, hc]
        have hz := (not_congr (en_span b (a := i * w) (w := w) (by omega) hw hiw)).mpr (by rw [hc]; decide)
        refine lv_if_eq (tgt := 36) hx hb dX0_spansUsed_30 rfl (fun hh => absurd hh (fun q => hz ((lg_cmp_eq _ _).mp q))) (fun _ => ?_)
        refine lv_iinc (k := 1) (v := nI (spU b w (i + 1))) (lv' := [(6, .int (nI (spU b w (i + 1)))), (7, .int (nI i)), (4, .long (lN (2 ^ w - 1))), (0, .long (en b)), (2, .int (nI n0)), (3, .int (nI w))]) hx hb dX0_spansUsed_33 hl rfl (by rw [hu]; exact nI_1 _) (by decide) rfl (fun ls hl => ?_)
        refine lv_iinc (k := 1) (v := nI (i + 1)) (lv' := [(7, .int (nI (i + 1))), (6, .int (nI (spU b w (i + 1)))), (4, .long (lN (2 ^ w - 1))), (0, .long (en b)), (2, .int (nI n0)), (3, .int (nI w))]) hx hb dX0_spansUsed_36 hl rfl (nI_1 i) (by decide) rfl (fun ls hl => ?_)
        refine lv_goto (tgt := 13) hx hb dX0_spansUsed_39 rfl ?_
        exact ih (i + 1) _ (by omega) (lv_sub hl [0, 1, 2, 3, 4, 5] rfl)
  exact loop n0 0 _ (by omega) (lv_sub hl [0, 1, 2, 3, 4, 5] rfl)
set_option maxHeartbeats 4000000 in
set_option maxRecDepth 100000 in
theorem fm_tablesFor {b : Nat → Bool} {ws : va_W} : gM l yX0_tablesFor cX0_tablesFor 2 (some .int) 1 27 D cls (fpT cI cQ cZ) A (ws) [.long (en b)] (some (.int (nI (tbN b)))) (ws) := by
  refine gM_of (by decide) (Nat.le_of_ble_eq_true rfl) ?_
  intro p e s m args below meth c ls hx hb hml hown hts hN hr hlk hl hG
  have hown : s.vm.findClass RX0 = some m.cls := hown
  have hl : lv_has ls 2 [(0, .long (en b))] := hl
  refine lv_iconst (v := nI 1) hx hb dX0_tablesFor_0 (by decide) ?_
  refine lv_lload_n hx hb dX0_tablesFor_1 rfl (lv_at hl 0 rfl) ?_
  refine lv_iconst (v := nI 4) hx hb dX0_tablesFor_2 (by decide) ?_
  refine lv_bipush (v := nI 16) hx hb dX0_tablesFor_3 (by decide) ?_
  refine g_callS (As := [.long (en b), .int (nI 4), .int (nI 16)]) (rest := [.int (nI 1)]) (fm_spansUsed (b := b) (n0 := 4) (w := 16) (by decide) (by decide) (by decide) (by decide)) hx hb hml hown hts hN hG t_89 t_90 t_2 t_91 nm_X0_spansUsed ⟨by decide, by decide⟩ hl.1 (Nat.le_of_ble_eq_true rfl) dX0_tablesFor_5 ⟨Nat.zero_le _, Nat.zero_le _⟩ (fun H locs hG => ?_)
  refine W.eq (g2 := F0 m 8 ls [.int (nI (spU b 16 4)), .int (nI 1)]) rfl ?_
  refine lv_iadd hx hb dX0_tablesFor_8 ?_
  refine g_top (y := nI (1 + spU b 16 4)) (nI_add _ _) ?_
  refine lv_lload_n hx hb dX0_tablesFor_9 rfl (lv_at hl 0 rfl) ?_
  refine lv_bipush (v := nI 16) hx hb dX0_tablesFor_10 (by decide) ?_
  refine lv_iconst (v := nI 4) hx hb dX0_tablesFor_12 (by decide) ?_
  refine g_callS (As := [.long (en b), .int (nI 16), .int (nI 4)]) (rest := [.int (nI (1 + spU b 16 4))]) (fm_spansUsed (b := b) (n0 := 16) (w := 4) (by decide) (by decide) (by decide) (by decide)) hx hb hml hown hts hN hG t_89 t_90 t_2 t_91 nm_X0_spansUsed ⟨by decide, by decide⟩ hl.1 (Nat.le_of_ble_eq_true rfl) dX0_tablesFor_13 ⟨Nat.zero_le _, Nat.zero_le _⟩ (fun H locs hG => ?_)
  refine W.eq (g2 := F0 m 16 ls [.int (nI (spU b 4 16)), .int (nI (1 + spU b 16 4))]) rfl ?_
  refine lv_iadd hx hb dX0_tablesFor_16 ?_
  refine g_top (y := nI (tbN b)) (nI_add _ _) ?_
  exact g_iret hx hb hr hlk hG dX0_tablesFor_17
theorem tbN_0 : tbN (fun _ => false) = 1 := by decide +kernel
set_option maxHeartbeats 4000000 in
set_option maxRecDepth 100000 in
theorem fm_tables0 {ws : va_W} : gM l yX0_tablesFor cX0_tablesFor 2 (some .int) 1 27 D cls (fpT cI cQ cZ) A (ws) [.long 0] (some (.int (nI 1))) (ws) := by
  have h := fm_tablesFor (l := l) (D := D) (A := A) (cI := cI) (cQ := cQ) (cZ := cZ) (b := fun _ => false) (ws := ws)
  rw [en_0, tbN_0] at h
  exact h
set_option maxHeartbeats 4000000 in
set_option maxRecDepth 100000 in
theorem fm_tableCount {j : Nat} (hj : j < 5) : gM l yX0_tableCount cX0_tableCount 1 (some .int) 2 48 D cls (fpT cI cQ cZ) A (fpW ad cI cQ run mp fr kd wd ct af cf) [.ref (ad (5 + 3 * j))] (some (.int (nI (tbN (mp j))))) (fpW ad cI cQ run mp fr kd wd ct af cf) := by
  refine gM_of (by decide) (Nat.le_of_ble_eq_true rfl) ?_
  intro p e s m args below meth c ls hx hb hml hown hts hN hr hlk hl hG
  have hown : s.vm.findClass RX0 = some m.cls := hown
  have hl : lv_has ls 1 [(0, .ref (ad (5 + 3 * j)))] := hl
  refine lv_aload_n hx hb dX0_tableCount_0 rfl (lv_at hl 0 rfl) ?_
  refine g_get (k := 1) (v := .long (en (mp j))) (C := RX0) (ref := RX0) (fs := [.int (bI (run j)), .long (en (mp j)), .ref (ad (6 + 3 * j)), .ref (ad (7 + 3 * j))]) hx hb hown hts hG gX0 rfl (fp_5 (hj)) (by decide) t_22 rfl rfl dX0_tableCount_1 ?_
  refine g_callS (As := [.long (en (mp j))]) (rest := []) (fm_tablesFor) hx hb hml hown hts hN hG t_86 t_87 t_2 t_88 nm_X0_tablesFor ⟨by decide, by decide⟩ hl.1 (Nat.le_of_ble_eq_true rfl) dX0_tableCount_4 ⟨Nat.zero_le _, Nat.zero_le _⟩ (fun H locs hG => ?_)
  refine W.eq (g2 := F0 m 7 ls [.int (nI (tbN (mp j)))]) rfl ?_
  exact g_iret hx hb hr hlk hG dX0_tableCount_7
set_option maxHeartbeats 4000000 in
set_option maxRecDepth 100000 in
theorem fm_tablesToAdd {j k : Nat} (hj : j < 5) (hk : k < 64) : gM l yX0_tablesToAdd cX0_tablesToAdd 2 (some .int) 2 48 D cls (fpT cI cQ cZ) A (fpW ad cI cQ run mp fr kd wd ct af cf) [.ref (ad (5 + 3 * j)), .int (nI k)] (some (.int (nI (tbN (up1 (mp j) k true)) - nI (tbN (mp j))))) (fpW ad cI cQ run mp fr kd wd ct af cf) := by
  refine gM_of (by decide) (Nat.le_of_ble_eq_true rfl) ?_
  intro p e s m args below meth c ls hx hb hml hown hts hN hr hlk hl hG
  have hown : s.vm.findClass RX0 = some m.cls := hown
  have hl : lv_has ls 2 [(0, .ref (ad (5 + 3 * j))), (1, .int (nI k))] := hl
  refine lv_aload_n hx hb dX0_tablesToAdd_0 rfl (lv_at hl 0 rfl) ?_
  refine g_get (k := 1) (v := .long (en (mp j))) (C := RX0) (ref := RX0) (fs := [.int (bI (run j)), .long (en (mp j)), .ref (ad (6 + 3 * j)), .ref (ad (7 + 3 * j))]) hx hb hown hts hG gX0 rfl (fp_5 (hj)) (by decide) t_22 rfl rfl dX0_tablesToAdd_1 ?_
  refine lv_lconst (v := 1) hx hb dX0_tablesToAdd_4 (by decide) ?_
  refine lv_iload_n hx hb dX0_tablesToAdd_5 rfl (lv_at hl 1 rfl) ?_
  refine lv_lshl (v := 1 <<< ((nI k).toInt64 &&& 63)) hx hb dX0_tablesToAdd_6 rfl ?_
  refine lv_lor hx hb dX0_tablesToAdd_7 ?_
  refine g_topl (y := en (up1 (mp j) k true)) (en_set _ hk) ?_
  refine g_callS (As := [.long (en (up1 (mp j) k true))]) (rest := []) (fm_tablesFor) hx hb hml hown hts hN hG t_86 t_87 t_2 t_88 nm_X0_tablesFor ⟨by decide, by decide⟩ hl.1 (Nat.le_of_ble_eq_true rfl) dX0_tablesToAdd_8 ⟨Nat.zero_le _, Nat.zero_le _⟩ (fun H locs hG => ?_)
  refine W.eq (g2 := F0 m 11 ls [.int (nI (tbN (up1 (mp j) k true)))]) rfl ?_
  refine lv_aload_n hx hb dX0_tablesToAdd_11 rfl (lv_at hl 0 rfl) ?_
  refine g_get (k := 1) (v := .long (en (mp j))) (C := RX0) (ref := RX0) (fs := [.int (bI (run j)), .long (en (mp j)), .ref (ad (6 + 3 * j)), .ref (ad (7 + 3 * j))]) hx hb hown hts hG gX0 rfl (fp_5 (hj)) (by decide) t_22 rfl rfl dX0_tablesToAdd_12 ?_
  refine g_callS (As := [.long (en (mp j))]) (rest := [.int (nI (tbN (up1 (mp j) k true)))]) (fm_tablesFor) hx hb hml hown hts hN hG t_86 t_87 t_2 t_88 nm_X0_tablesFor ⟨by decide, by decide⟩ hl.1 (Nat.le_of_ble_eq_true rfl) dX0_tablesToAdd_15 ⟨Nat.zero_le _, Nat.zero_le _⟩ (fun H locs hG => ?_)
  refine W.eq (g2 := F0 m 18 ls [.int (nI (tbN (mp j))), .int (nI (tbN (up1 (mp j) k true)))]) rfl ?_
  refine lv_isub hx hb dX0_tablesToAdd_18 ?_
  exact g_iret hx hb hr hlk hG dX0_tablesToAdd_19
set_option maxHeartbeats 4000000 in
set_option maxRecDepth 100000 in
theorem fm_bitCount {x : Int64} {ws : va_W} : gM l yJ13_bitCount_95d88 cJ13_bitCount_95d88 2 (some .int) 0 0 D cls (fpT cI cQ cZ) A (ws) [.long x] (some (.int (bcI x))) (ws) := by
  refine gM_of (by decide) (Nat.le_of_ble_eq_true rfl) ?_
  intro p e s m args below meth c ls hx hb hml hown hts hN hr hlk hl hG
  have hown : s.vm.findClass RJ13 = some m.cls := hown
  have hl : lv_has ls 2 [(0, .long x)] := hl
  refine lv_lload_n hx hb dJ13_bitCount_95d88_0 rfl (lv_at hl 0 rfl) ?_
  refine lv_lload_n hx hb dJ13_bitCount_95d88_1 rfl (lv_at hl 0 rfl) ?_
  refine lv_iconst (v := nI 1) hx hb dJ13_bitCount_95d88_2 (by decide) ?_
  refine lv_lushr (v := ((x).toUInt64 >>> ((nI 1).toInt64.toUInt64 &&& Int64.toUInt64 63)).toInt64) hx hb dJ13_bitCount_95d88_3 rfl ?_
  refine lv_ldc2 (v := 6148914691236517205) hx hb hown (hts _ t_209) dJ13_bitCount_95d88_4 ?_
  refine lv_land hx hb dJ13_bitCount_95d88_7 ?_
  refine lv_lsub hx hb dJ13_bitCount_95d88_8 ?_
  refine g_topl (y := bc1 x) (rfl) ?_
  refine lv_lstore_n (lv' := [(0, .long (bc1 x))]) hx hb dJ13_bitCount_95d88_9 rfl hl (by decide) rfl (fun ls hl => ?_)
  refine lv_lload_n hx hb dJ13_bitCount_95d88_10 rfl (lv_at hl 0 rfl) ?_
  refine lv_ldc2 (v := 3689348814741910323) hx hb hown (hts _ t_210) dJ13_bitCount_95d88_11 ?_
  refine lv_land hx hb dJ13_bitCount_95d88_14 ?_
  refine lv_lload_n hx hb dJ13_bitCount_95d88_15 rfl (lv_at hl 0 rfl) ?_
  refine lv_iconst (v := nI 2) hx hb dJ13_bitCount_95d88_16 (by decide) ?_
  refine lv_lushr (v := ((bc1 x).toUInt64 >>> ((nI 2).toInt64.toUInt64 &&& Int64.toUInt64 63)).toInt64) hx hb dJ13_bitCount_95d88_17 rfl ?_
  refine lv_ldc2 (v := 3689348814741910323) hx hb hown (hts _ t_210) dJ13_bitCount_95d88_18 ?_
  refine lv_land hx hb dJ13_bitCount_95d88_21 ?_
  refine lv_ladd hx hb dJ13_bitCount_95d88_22 ?_
  refine g_topl (y := bc2 (bc1 x)) (rfl) ?_
  refine lv_lstore_n (lv' := [(0, .long (bc2 (bc1 x)))]) hx hb dJ13_bitCount_95d88_23 rfl hl (by decide) rfl (fun ls hl => ?_)
  refine lv_lload_n hx hb dJ13_bitCount_95d88_24 rfl (lv_at hl 0 rfl) ?_
  refine lv_lload_n hx hb dJ13_bitCount_95d88_25 rfl (lv_at hl 0 rfl) ?_
  refine lv_iconst (v := nI 4) hx hb dJ13_bitCount_95d88_26 (by decide) ?_
  refine lv_lushr (v := ((bc2 (bc1 x)).toUInt64 >>> ((nI 4).toInt64.toUInt64 &&& Int64.toUInt64 63)).toInt64) hx hb dJ13_bitCount_95d88_27 rfl ?_
  refine lv_ladd hx hb dJ13_bitCount_95d88_28 ?_
  refine lv_ldc2 (v := 1085102592571150095) hx hb hown (hts _ t_211) dJ13_bitCount_95d88_29 ?_
  refine lv_land hx hb dJ13_bitCount_95d88_32 ?_
  refine g_topl (y := bc3 (bc2 (bc1 x))) (rfl) ?_
  refine lv_lstore_n (lv' := [(0, .long (bc3 (bc2 (bc1 x))))]) hx hb dJ13_bitCount_95d88_33 rfl hl (by decide) rfl (fun ls hl => ?_)
  refine lv_lload_n hx hb dJ13_bitCount_95d88_34 rfl (lv_at hl 0 rfl) ?_
  refine lv_lload_n hx hb dJ13_bitCount_95d88_35 rfl (lv_at hl 0 rfl) ?_
  refine lv_bipush (v := nI 8) hx hb dJ13_bitCount_95d88_36 (by decide) ?_
  refine lv_lushr (v := ((bc3 (bc2 (bc1 x))).toUInt64 >>> ((nI 8).toInt64.toUInt64 &&& Int64.toUInt64 63)).toInt64) hx hb dJ13_bitCount_95d88_38 rfl ?_
  refine lv_ladd hx hb dJ13_bitCount_95d88_39 ?_
  refine g_topl (y := bc4 (bc3 (bc2 (bc1 x)))) (rfl) ?_
  refine lv_lstore_n (lv' := [(0, .long (bc4 (bc3 (bc2 (bc1 x)))))]) hx hb dJ13_bitCount_95d88_40 rfl hl (by decide) rfl (fun ls hl => ?_)
  refine lv_lload_n hx hb dJ13_bitCount_95d88_41 rfl (lv_at hl 0 rfl) ?_
  refine lv_lload_n hx hb dJ13_bitCount_95d88_42 rfl (lv_at hl 0 rfl) ?_
  refine lv_bipush (v := nI 16) hx hb dJ13_bitCount_95d88_43 (by decide) ?_
  refine lv_lushr (v := ((bc4 (bc3 (bc2 (bc1 x)))).toUInt64 >>> ((nI 16).toInt64.toUInt64 &&& Int64.toUInt64 63)).toInt64) hx hb dJ13_bitCount_95d88_45 rfl ?_
  refine lv_ladd hx hb dJ13_bitCount_95d88_46 ?_
  refine g_topl (y := bc5 (bc4 (bc3 (bc2 (bc1 x))))) (rfl) ?_
  refine lv_lstore_n (lv' := [(0, .long (bc5 (bc4 (bc3 (bc2 (bc1 x))))))]) hx hb dJ13_bitCount_95d88_47 rfl hl (by decide) rfl (fun ls hl => ?_)
  refine lv_lload_n hx hb dJ13_bitCount_95d88_48 rfl (lv_at hl 0 rfl) ?_
  refine lv_lload_n hx hb dJ13_bitCount_95d88_49 rfl (lv_at hl 0 rfl) ?_
  refine lv_bipush (v := nI 32) hx hb dJ13_bitCount_95d88_50 (by decide) ?_
  refine lv_lushr (v := ((bc5 (bc4 (bc3 (bc2 (bc1 x))))).toUInt64 >>> ((nI 32).toInt64.toUInt64 &&& Int64.toUInt64 63)).toInt64) hx hb dJ13_bitCount_95d88_52 rfl ?_
  refine lv_ladd hx hb dJ13_bitCount_95d88_53 ?_
  refine g_topl (y := bc6 (bc5 (bc4 (bc3 (bc2 (bc1 x)))))) (rfl) ?_
  refine lv_lstore_n (lv' := [(0, .long (bc6 (bc5 (bc4 (bc3 (bc2 (bc1 x)))))))]) hx hb dJ13_bitCount_95d88_54 rfl hl (by decide) rfl (fun ls hl => ?_)
  refine lv_lload_n hx hb dJ13_bitCount_95d88_55 rfl (lv_at hl 0 rfl) ?_
  refine lv_l2i (v := (bc6 (bc5 (bc4 (bc3 (bc2 (bc1 x)))))).toInt32) hx hb dJ13_bitCount_95d88_56 rfl ?_
  refine lv_bipush (v := nI 127) hx hb dJ13_bitCount_95d88_57 (by decide) ?_
  refine lv_iand hx hb dJ13_bitCount_95d88_59 ?_
  refine g_top (y := bcI x) (rfl) ?_
  exact g_iret hx hb hr hlk hG dJ13_bitCount_95d88_60
end CM
end
section
section CM
variable {l : Launch} {D : va_G} {A : Nat → Prop} {ad : Nat → Nat} {cI cQ cZ : ClassId} {run : Nat → Bool} {mp : Nat → Nat → Bool} {fr : Nat → Nat → Nat} {kd : Nat → Nat → Int32} {wd ct : Nat → Int32} {af cf : Int32}
def rn (run : Nat → Bool) (x : Int32) : Prop := ∃ j, j < 5 ∧ x = nI j ∧ run j = true
def pgI (x : Int32) : Prop := ∃ k, k < 64 ∧ x = nI k
def frL (run : Nat → Bool) (mp : Nat → Nat → Bool) (u : Int32) : Nat → Int32
  | 0 => u
  | n + 1 => if run n then frL run mp u n - nI (tbN (mp n)) else frL run mp u n
def frF (run : Nat → Bool) (mp : Nat → Nat → Bool) (ct : Nat → Int32) : Int32 := frL run mp (nI 24 - nI (usN ct 24)) 5
set_option maxHeartbeats 4000000 in
set_option maxRecDepth 100000 in
theorem fm_isRunning_t {j : Nat} (hj : j < 5) (h : run j = true) : gM l yX2_isRunning cX2_isRunning 2 (some .boolean) 0 0 D cls (fpT cI cQ cZ) A (fpW ad cI cQ run mp fr kd wd ct af cf) [.ref (ad 0), .int (nI j)] (some (.int 1)) (fpW ad cI cQ run mp fr kd wd ct af cf) := by
  refine gM_of (by decide) (Nat.le_of_ble_eq_true rfl) ?_
  intro p e s m args below meth c ls hx hb hml hown hts hN hr hlk hl hG
  have hown : s.vm.findClass RX2 = some m.cls := hown
  have hl : lv_has ls 2 [(0, .ref (ad 0)), (1, .int (nI j))] := hl
  refine lv_iload_n hx hb dX2_isRunning_0 rfl (lv_at hl 1 rfl) ?_
  refine lv_if_lt (tgt := 25) hx hb dX2_isRunning_1 rfl (fun hh => absurd hh (nI_pos (Nat.lt_trans hj (by decide)))) (fun _ => ?_)
  refine lv_iload_n hx hb dX2_isRunning_4 rfl (lv_at hl 1 rfl) ?_
  refine lv_iconst (v := nI 5) hx hb dX2_isRunning_5 (by decide) ?_
  refine lv_icmp_ge (tgt := 25) hx hb dX2_isRunning_6 rfl (fun hh => absurd hh (nI_ge hj (by decide))) (fun _ => ?_)
  refine lv_aload_n hx hb dX2_isRunning_9 rfl (lv_at hl 0 rfl) ?_
  refine g_get (k := 0) (v := .ref (ad 1)) (C := RX2) (ref := RX2) (fs := [.ref (ad 1), .ref (ad 2), .int af, .int cf]) hx hb hown hts hG gX2 rfl fp_0 (by decide) t_53 rfl rfl dX2_isRunning_10 ?_
  refine lv_iload_n hx hb dX2_isRunning_13 rfl (lv_at hl 1 rfl) ?_
  refine g_aald (i := j) (t0 := 1) hx hb hG fp_1 rfl (hj) (by decide) rfl dX2_isRunning_14 ?_
  refine g_getN (k := 0) (v := .int (bI (run j))) (C := RX0) (ref := RX0) (fs := [.int (bI (run j)), .long (en (mp j)), .ref (ad (6 + 3 * j)), .ref (ad (7 + 3 * j))]) hx hb hown hts hN hG gX0 rfl (fp_5 (hj)) (by decide) t_21 rfl rfl dX2_isRunning_15 ?_
  refine g_top (y := 1) (by rw [h]; rfl) ?_
  refine lv_if_eq (tgt := 25) hx hb dX2_isRunning_18 rfl (fun hh => absurd hh (by decide)) (fun _ => ?_)
  refine lv_iconst (v := 1) hx hb dX2_isRunning_21 (by decide) ?_
  refine lv_goto (tgt := 26) hx hb dX2_isRunning_22 rfl ?_
  exact g_zret hx hb hr (rfl) hlk hG dX2_isRunning_26
set_option maxHeartbeats 4000000 in
set_option maxRecDepth 100000 in
theorem fm_isRunning_f {j : Nat} (hj : j < 5) (h : run j = false) : gM l yX2_isRunning cX2_isRunning 2 (some .boolean) 0 0 D cls (fpT cI cQ cZ) A (fpW ad cI cQ run mp fr kd wd ct af cf) [.ref (ad 0), .int (nI j)] (some (.int 0)) (fpW ad cI cQ run mp fr kd wd ct af cf) := by
  refine gM_of (by decide) (Nat.le_of_ble_eq_true rfl) ?_
  intro p e s m args below meth c ls hx hb hml hown hts hN hr hlk hl hG
  have hown : s.vm.findClass RX2 = some m.cls := hown
  have hl : lv_has ls 2 [(0, .ref (ad 0)), (1, .int (nI j))] := hl
  refine lv_iload_n hx hb dX2_isRunning_0 rfl (lv_at hl 1 rfl) ?_
  refine lv_if_lt (tgt := 25) hx hb dX2_isRunning_1 rfl (fun hh => absurd hh (nI_pos (Nat.lt_trans hj (by decide)))) (fun _ => ?_)
  refine lv_iload_n hx hb dX2_isRunning_4 rfl (lv_at hl 1 rfl) ?_
  refine lv_iconst (v := nI 5) hx hb dX2_isRunning_5 (by decide) ?_
  refine lv_icmp_ge (tgt := 25) hx hb dX2_isRunning_6 rfl (fun hh => absurd hh (nI_ge hj (by decide))) (fun _ => ?_)
  refine lv_aload_n hx hb dX2_isRunning_9 rfl (lv_at hl 0 rfl) ?_
  refine g_get (k := 0) (v := .ref (ad 1)) (C := RX2) (ref := RX2) (fs := [.ref (ad 1), .ref (ad 2), .int af, .int cf]) hx hb hown hts hG gX2 rfl fp_0 (by decide) t_53 rfl rfl dX2_isRunning_10 ?_
  refine lv_iload_n hx hb dX2_isRunning_13 rfl (lv_at hl 1 rfl) ?_
  refine g_aald (i := j) (t0 := 1) hx hb hG fp_1 rfl (hj) (by decide) rfl dX2_isRunning_14 ?_
  refine g_getN (k := 0) (v := .int (bI (run j))) (C := RX0) (ref := RX0) (fs := [.int (bI (run j)), .long (en (mp j)), .ref (ad (6 + 3 * j)), .ref (ad (7 + 3 * j))]) hx hb hown hts hN hG gX0 rfl (fp_5 (hj)) (by decide) t_21 rfl rfl dX2_isRunning_15 ?_
  refine g_top (y := 0) (by rw [h]; rfl) ?_
  refine lv_if_eq (tgt := 25) hx hb dX2_isRunning_18 rfl (fun _ => ?_) (fun hh => absurd (rfl) hh)
  refine lv_iconst (v := 0) hx hb dX2_isRunning_25 (by decide) ?_
  exact g_zret hx hb hr (rfl) hlk hG dX2_isRunning_26
set_option maxHeartbeats 4000000 in
set_option maxRecDepth 100000 in
theorem fm_isRunning_neg {x : Int32} (h : x < 0) : gM l yX2_isRunning cX2_isRunning 2 (some .boolean) 0 0 D cls (fpT cI cQ cZ) A (fpW ad cI cQ run mp fr kd wd ct af cf) [.ref (ad 0), .int x] (some (.int 0)) (fpW ad cI cQ run mp fr kd wd ct af cf) := by
  refine gM_of (by decide) (Nat.le_of_ble_eq_true rfl) ?_
  intro p e s m args below meth c ls hx hb hml hown hts hN hr hlk hl hG
  have hown : s.vm.findClass RX2 = some m.cls := hown
  have hl : lv_has ls 2 [(0, .ref (ad 0)), (1, .int x)] := hl
  refine lv_iload_n hx hb dX2_isRunning_0 rfl (lv_at hl 1 rfl) ?_
  refine lv_if_lt (tgt := 25) hx hb dX2_isRunning_1 rfl (fun _ => ?_) (fun hh => absurd (h) hh)
  refine lv_iconst (v := 0) hx hb dX2_isRunning_25 (by decide) ?_
  exact g_zret hx hb hr (rfl) hlk hG dX2_isRunning_26
set_option maxHeartbeats 4000000 in
set_option maxRecDepth 100000 in
theorem fm_isRunning_big {x : Int32} (h0 : ¬ x < 0) (h : nI 5 ≤ x) : gM l yX2_isRunning cX2_isRunning 2 (some .boolean) 0 0 D cls (fpT cI cQ cZ) A (fpW ad cI cQ run mp fr kd wd ct af cf) [.ref (ad 0), .int x] (some (.int 0)) (fpW ad cI cQ run mp fr kd wd ct af cf) := by
  refine gM_of (by decide) (Nat.le_of_ble_eq_true rfl) ?_
  intro p e s m args below meth c ls hx hb hml hown hts hN hr hlk hl hG
  have hown : s.vm.findClass RX2 = some m.cls := hown
  have hl : lv_has ls 2 [(0, .ref (ad 0)), (1, .int x)] := hl
  refine lv_iload_n hx hb dX2_isRunning_0 rfl (lv_at hl 1 rfl) ?_
  refine lv_if_lt (tgt := 25) hx hb dX2_isRunning_1 rfl (fun hh => absurd hh (h0)) (fun _ => ?_)
  refine lv_iload_n hx hb dX2_isRunning_4 rfl (lv_at hl 1 rfl) ?_
  refine lv_iconst (v := nI 5) hx hb dX2_isRunning_5 (by decide) ?_
  refine lv_icmp_ge (tgt := 25) hx hb dX2_isRunning_6 rfl (fun _ => ?_) (fun hh => absurd (h) hh)
  refine lv_iconst (v := 0) hx hb dX2_isRunning_25 (by decide) ?_
  exact g_zret hx hb hr (rfl) hlk hG dX2_isRunning_26
set_option maxHeartbeats 4000000 in
set_option maxRecDepth 100000 in
theorem fm_isRunning_n {x : Int32} (h : ¬ rn run x) : gM l yX2_isRunning cX2_isRunning 2 (some .boolean) 0 0 D cls (fpT cI cQ cZ) A (fpW ad cI cQ run mp fr kd wd ct af cf) [.ref (ad 0), .int x] (some (.int 0)) (fpW ad cI cQ run mp fr kd wd ct af cf) := by
  by_cases h0 : x < 0
  · exact fm_isRunning_neg h0
  rcases pk_ix x (n := 5) (by decide) with h1 | h1 | ⟨j, hj, rfl⟩
  · exact absurd h1 h0
  · exact fm_isRunning_big h0 h1
  cases hr : run j
  · exact fm_isRunning_f hj hr
  · exact absurd ⟨j, hj, rfl, hr⟩ h
set_option maxHeartbeats 4000000 in
set_option maxRecDepth 100000 in
theorem fm_isPage_t {k : Nat} (hk : k < 64) {ws : va_W} : gM l yX2_isPage cX2_isPage 1 (some .boolean) 0 0 D cls (fpT cI cQ cZ) A (ws) [.int (nI k)] (some (.int 1)) (ws) := by
  refine gM_of (by decide) (Nat.le_of_ble_eq_true rfl) ?_
  intro p e s m args below meth c ls hx hb hml hown hts hN hr hlk hl hG
  have hown : s.vm.findClass RX2 = some m.cls := hown
  have hl : lv_has ls 1 [(0, .int (nI k))] := hl
  refine lv_iload_n hx hb dX2_isPage_0 rfl (lv_at hl 0 rfl) ?_
  refine lv_if_lt (tgt := 14) hx hb dX2_isPage_1 rfl (fun hh => absurd hh (nI_pos (Nat.lt_trans hk (by decide)))) (fun _ => ?_)
  refine lv_iload_n hx hb dX2_isPage_4 rfl (lv_at hl 0 rfl) ?_
  refine lv_bipush (v := nI 64) hx hb dX2_isPage_5 (by decide) ?_
  refine lv_icmp_ge (tgt := 14) hx hb dX2_isPage_7 rfl (fun hh => absurd hh (nI_ge hk (by decide))) (fun _ => ?_)
  refine lv_iconst (v := 1) hx hb dX2_isPage_10 (by decide) ?_
  refine lv_goto (tgt := 15) hx hb dX2_isPage_11 rfl ?_
  exact g_zret hx hb hr (rfl) hlk hG dX2_isPage_15
set_option maxHeartbeats 4000000 in
set_option maxRecDepth 100000 in
theorem fm_isPage_neg {x : Int32} (h : x < 0) {ws : va_W} : gM l yX2_isPage cX2_isPage 1 (some .boolean) 0 0 D cls (fpT cI cQ cZ) A (ws) [.int x] (some (.int 0)) (ws) := by
  refine gM_of (by decide) (Nat.le_of_ble_eq_true rfl) ?_
  intro p e s m args below meth c ls hx hb hml hown hts hN hr hlk hl hG
  have hown : s.vm.findClass RX2 = some m.cls := hown
  have hl : lv_has ls 1 [(0, .int x)] := hl
  refine lv_iload_n hx hb dX2_isPage_0 rfl (lv_at hl 0 rfl) ?_
  refine lv_if_lt (tgt := 14) hx hb dX2_isPage_1 rfl (fun _ => ?_) (fun hh => absurd (h) hh)
  refine lv_iconst (v := 0) hx hb dX2_isPage_14 (by decide) ?_
  exact g_zret hx hb hr (rfl) hlk hG dX2_isPage_15
set_option maxHeartbeats 4000000 in
set_option maxRecDepth 100000 in
theorem fm_isPage_big {x : Int32} (h0 : ¬ x < 0) (h : nI 64 ≤ x) {ws : va_W} : gM l yX2_isPage cX2_isPage 1 (some .boolean) 0 0 D cls (fpT cI cQ cZ) A (ws) [.int x] (some (.int 0)) (ws) := by
  refine gM_of (by decide) (Nat.le_of_ble_eq_true rfl) ?_
  intro p e s m args below meth c ls hx hb hml hown hts hN hr hlk hl hG
  have hown : s.vm.findClass RX2 = some m.cls := hown
  have hl : lv_has ls 1 [(0, .int x)] := hl
  refine lv_iload_n hx hb dX2_isPage_0 rfl (lv_at hl 0 rfl) ?_
  refine lv_if_lt (tgt := 14) hx hb dX2_isPage_1 rfl (fun hh => absurd hh (h0)) (fun _ => ?_)
  refine lv_iload_n hx hb dX2_isPage_4 rfl (lv_at hl 0 rfl) ?_
  refine lv_bipush (v := nI 64) hx hb dX2_isPage_5 (by decide) ?_
  refine lv_icmp_ge (tgt := 14) hx hb dX2_isPage_7 rfl (fun _ => ?_) (fun hh => absurd (h) hh)
  refine lv_iconst (v := 0) hx hb dX2_isPage_14 (by decide) ?_
  exact g_zret hx hb hr (rfl) hlk hG dX2_isPage_15
set_option maxHeartbeats 4000000 in
set_option maxRecDepth 100000 in
theorem fm_isPage_n {x : Int32} (h : ¬ pgI x) {ws : va_W} : gM l yX2_isPage cX2_isPage 1 (some .boolean) 0 0 D cls (fpT cI cQ cZ) A (ws) [.int x] (some (.int 0)) (ws) := by
  by_cases h0 : x < 0
  · exact fm_isPage_neg h0
  rcases pk_ix x (n := 64) (by decide) with h1 | h1 | ⟨k, hk, rfl⟩
  · exact absurd h1 h0
  · exact fm_isPage_big h0 h1
  · exact absurd ⟨k, hk, rfl⟩ h
set_option maxHeartbeats 4000000 in
set_option maxRecDepth 100000 in
theorem fm_rM_1 {x y : Int32} (h : ¬ rn run x) : gM l yX2_refusalOfMapped cX2_refusalOfMapped 3 (some .int) 1 21 D cls (fpT cI cQ cZ) A (fpW ad cI cQ run mp fr kd wd ct af cf) [.ref (ad 0), .int x, .int y] (some (.int (-1))) (fpW ad cI cQ run mp fr kd wd ct af cf) := by
  refine gM_of (by decide) (Nat.le_of_ble_eq_true rfl) ?_
  intro p e s m args below meth c ls hx hb hml hown hts hN hr hlk hl hG
  have hown : s.vm.findClass RX2 = some m.cls := hown
  have hl : lv_has ls 3 [(0, .ref (ad 0)), (1, .int x), (2, .int y)] := hl
  refine lv_aload_n hx hb dX2_refusalOfMapped_0 rfl (lv_at hl 0 rfl) ?_
  refine lv_iload_n hx hb dX2_refusalOfMapped_1 rfl (lv_at hl 1 rfl) ?_
  refine g_callV (As := [.int x]) (rest := []) (fs := [.ref (ad 1), .ref (ad 2), .int af, .int cf]) (fm_isRunning_n h) hx hb hml hown hts hN hG t_97 t_99 s_4 t_1 t_100 nm_X2_isRunning ⟨by decide, by decide⟩ fp_0 rfl hl.1 (Nat.le_of_ble_eq_true rfl) dX2_refusalOfMapped_2 ⟨Nat.zero_le _, Nat.zero_le _⟩ (fun H locs hG => ?_)
  refine W.eq (g2 := F0 m 5 ls [.int 0]) rfl ?_
  refine lv_if_ne (tgt := 10) hx hb dX2_refusalOfMapped_5 rfl (fun hh => absurd (rfl) hh) (fun _ => ?_)
  refine lv_iconst (v := (-1)) hx hb dX2_refusalOfMapped_8 (by decide) ?_
  exact g_iret hx hb hr hlk hG dX2_refusalOfMapped_9
set_option maxHeartbeats 4000000 in
set_option maxRecDepth 100000 in
theorem fm_rM_2 {j : Nat} {y : Int32} (hj : j < 5) (h : run j = true) (h2 : ¬ pgI y) : gM l yX2_refusalOfMapped cX2_refusalOfMapped 3 (some .int) 1 21 D cls (fpT cI cQ cZ) A (fpW ad cI cQ run mp fr kd wd ct af cf) [.ref (ad 0), .int (nI j), .int y] (some (.int (-2))) (fpW ad cI cQ run mp fr kd wd ct af cf) := by
  refine gM_of (by decide) (Nat.le_of_ble_eq_true rfl) ?_
  intro p e s m args below meth c ls hx hb hml hown hts hN hr hlk hl hG
  have hown : s.vm.findClass RX2 = some m.cls := hown
  have hl : lv_has ls 3 [(0, .ref (ad 0)), (1, .int (nI j)), (2, .int y)] := hl
  refine lv_aload_n hx hb dX2_refusalOfMapped_0 rfl (lv_at hl 0 rfl) ?_
  refine lv_iload_n hx hb dX2_refusalOfMapped_1 rfl (lv_at hl 1 rfl) ?_
  refine g_callV (As := [.int (nI j)]) (rest := []) (fs := [.ref (ad 1), .ref (ad 2), .int af, .int cf]) (fm_isRunning_t hj h) hx hb hml hown hts hN hG t_97 t_99 s_4 t_1 t_100 nm_X2_isRunning ⟨by decide, by decide⟩ fp_0 rfl hl.1 (Nat.le_of_ble_eq_true rfl) dX2_refusalOfMapped_2 ⟨Nat.zero_le _, Nat.zero_le _⟩ (fun H locs hG => ?_)
  refine W.eq (g2 := F0 m 5 ls [.int 1]) rfl ?_
  refine lv_if_ne (tgt := 10) hx hb dX2_refusalOfMapped_5 rfl (fun _ => ?_) (fun hh => absurd hh (by decide))
  refine lv_iload_n hx hb dX2_refusalOfMapped_10 rfl (lv_at hl 2 rfl) ?_
  refine g_callS (As := [.int y]) (rest := []) (fm_isPage_n h2) hx hb hml hown hts hN hG t_142 t_143 t_1 t_144 nm_X2_isPage ⟨by decide, by decide⟩ hl.1 (Nat.le_of_ble_eq_true rfl) dX2_refusalOfMapped_11 ⟨Nat.zero_le _, Nat.zero_le _⟩ (fun H locs hG => ?_)
  refine W.eq (g2 := F0 m 14 ls [.int 0]) rfl ?_
  refine lv_if_ne (tgt := 20) hx hb dX2_refusalOfMapped_14 rfl (fun hh => absurd (rfl) hh) (fun _ => ?_)
  refine lv_bipush (v := (-2)) hx hb dX2_refusalOfMapped_17 (by decide) ?_
  exact g_iret hx hb hr hlk hG dX2_refusalOfMapped_19
set_option maxHeartbeats 4000000 in
set_option maxRecDepth 100000 in
theorem fm_rM_3 {j k : Nat} (hj : j < 5) (h : run j = true) (hk : k < 64) (h2 : mp j k = false) : gM l yX2_refusalOfMapped cX2_refusalOfMapped 3 (some .int) 1 21 D cls (fpT cI cQ cZ) A (fpW ad cI cQ run mp fr kd wd ct af cf) [.ref (ad 0), .int (nI j), .int (nI k)] (some (.int (-3))) (fpW ad cI cQ run mp fr kd wd ct af cf) := by
  refine gM_of (by decide) (Nat.le_of_ble_eq_true rfl) ?_
  intro p e s m args below meth c ls hx hb hml hown hts hN hr hlk hl hG
  have hown : s.vm.findClass RX2 = some m.cls := hown
  have hl : lv_has ls 3 [(0, .ref (ad 0)), (1, .int (nI j)), (2, .int (nI k))] := hl
  refine lv_aload_n hx hb dX2_refusalOfMapped_0 rfl (lv_at hl 0 rfl) ?_
  refine lv_iload_n hx hb dX2_refusalOfMapped_1 rfl (lv_at hl 1 rfl) ?_
  refine g_callV (As := [.int (nI j)]) (rest := []) (fs := [.ref (ad 1), .ref (ad 2), .int af, .int cf]) (fm_isRunning_t hj h) hx hb hml hown hts hN hG t_97 t_99 s_4 t_1 t_100 nm_X2_isRunning ⟨by decide, by decide⟩ fp_0 rfl hl.1 (Nat.le_of_ble_eq_true rfl) dX2_refusalOfMapped_2 ⟨Nat.zero_le _, Nat.zero_le _⟩ (fun H locs hG => ?_)
  refine W.eq (g2 := F0 m 5 ls [.int 1]) rfl ?_
  refine lv_if_ne (tgt := 10) hx hb dX2_refusalOfMapped_5 rfl (fun _ => ?_) (fun hh => absurd hh (by decide))
  refine lv_iload_n hx hb dX2_refusalOfMapped_10 rfl (lv_at hl 2 rfl) ?_
  refine g_callS (As := [.int (nI k)]) (rest := []) (fm_isPage_t hk) hx hb hml hown hts hN hG t_142 t_143 t_1 t_144 nm_X2_isPage ⟨by decide, by decide⟩ hl.1 (Nat.le_of_ble_eq_true rfl) dX2_refusalOfMapped_11 ⟨Nat.zero_le _, Nat.zero_le _⟩ (fun H locs hG => ?_)
  refine W.eq (g2 := F0 m 14 ls [.int 1]) rfl ?_
  refine lv_if_ne (tgt := 20) hx hb dX2_refusalOfMapped_14 rfl (fun _ => ?_) (fun hh => absurd hh (by decide))
  refine lv_aload_n hx hb dX2_refusalOfMapped_20 rfl (lv_at hl 0 rfl) ?_
  refine g_get (k := 0) (v := .ref (ad 1)) (C := RX2) (ref := RX2) (fs := [.ref (ad 1), .ref (ad 2), .int af, .int cf]) hx hb hown hts hG gX2 rfl fp_0 (by decide) t_53 rfl rfl dX2_refusalOfMapped_21 ?_
  refine lv_iload_n hx hb dX2_refusalOfMapped_24 rfl (lv_at hl 1 rfl) ?_
  refine g_aald (i := j) (t0 := 1) hx hb hG fp_1 rfl (hj) (by decide) rfl dX2_refusalOfMapped_25 ?_
  refine lv_iload_n hx hb dX2_refusalOfMapped_26 rfl (lv_at hl 2 rfl) ?_
  refine g_callVN (As := [.int (nI k)]) (rest := []) (fs := [.int (bI (run j)), .long (en (mp j)), .ref (ad (6 + 3 * j)), .ref (ad (7 + 3 * j))]) (fm_has_f hj hk h2) hx hb hml hown hts hN hG t_101 t_103 s_5 t_2 t_104 nm_X0_has ⟨by decide, by decide⟩ (fp_5 (hj)) rfl hl.1 (Nat.le_of_ble_eq_true rfl) dX2_refusalOfMapped_27 ⟨Nat.zero_le _, Nat.zero_le _⟩ (fun H locs hG => ?_)
  refine W.eq (g2 := F0 m 30 ls [.int 0]) rfl ?_
  refine lv_if_eq (tgt := 37) hx hb dX2_refusalOfMapped_30 rfl (fun _ => ?_) (fun hh => absurd (rfl) hh)
  refine lv_bipush (v := (-3)) hx hb dX2_refusalOfMapped_37 (by decide) ?_
  exact g_iret hx hb hr hlk hG dX2_refusalOfMapped_39
set_option maxHeartbeats 4000000 in
set_option maxRecDepth 100000 in
theorem fm_rM_0 {j k : Nat} (hj : j < 5) (h : run j = true) (hk : k < 64) (h2 : mp j k = true) : gM l yX2_refusalOfMapped cX2_refusalOfMapped 3 (some .int) 1 21 D cls (fpT cI cQ cZ) A (fpW ad cI cQ run mp fr kd wd ct af cf) [.ref (ad 0), .int (nI j), .int (nI k)] (some (.int 0)) (fpW ad cI cQ run mp fr kd wd ct af cf) := by
  refine gM_of (by decide) (Nat.le_of_ble_eq_true rfl) ?_
  intro p e s m args below meth c ls hx hb hml hown hts hN hr hlk hl hG
  have hown : s.vm.findClass RX2 = some m.cls := hown
  have hl : lv_has ls 3 [(0, .ref (ad 0)), (1, .int (nI j)), (2, .int (nI k))] := hl
  refine lv_aload_n hx hb dX2_refusalOfMapped_0 rfl (lv_at hl 0 rfl) ?_
  refine lv_iload_n hx hb dX2_refusalOfMapped_1 rfl (lv_at hl 1 rfl) ?_
  refine g_callV (As := [.int (nI j)]) (rest := []) (fs := [.ref (ad 1), .ref (ad 2), .int af, .int cf]) (fm_isRunning_t hj h) hx hb hml hown hts hN hG t_97 t_99 s_4 t_1 t_100 nm_X2_isRunning ⟨by decide, by decide⟩ fp_0 rfl hl.1 (Nat.le_of_ble_eq_true rfl) dX2_refusalOfMapped_2 ⟨Nat.zero_le _, Nat.zero_le _⟩ (fun H locs hG => ?_)
  refine W.eq (g2 := F0 m 5 ls [.int 1]) rfl ?_
  refine lv_if_ne (tgt := 10) hx hb dX2_refusalOfMapped_5 rfl (fun _ => ?_) (fun hh => absurd hh (by decide))
  refine lv_iload_n hx hb dX2_refusalOfMapped_10 rfl (lv_at hl 2 rfl) ?_
  refine g_callS (As := [.int (nI k)]) (rest := []) (fm_isPage_t hk) hx hb hml hown hts hN hG t_142 t_143 t_1 t_144 nm_X2_isPage ⟨by decide, by decide⟩ hl.1 (Nat.le_of_ble_eq_true rfl) dX2_refusalOfMapped_11 ⟨Nat.zero_le _, Nat.zero_le _⟩ (fun H locs hG => ?_)
  refine W.eq (g2 := F0 m 14 ls [.int 1]) rfl ?_
  refine lv_if_ne (tgt := 20) hx hb dX2_refusalOfMapped_14 rfl (fun _ => ?_) (fun hh => absurd hh (by decide))
  refine lv_aload_n hx hb dX2_refusalOfMapped_20 rfl (lv_at hl 0 rfl) ?_
  refine g_get (k := 0) (v := .ref (ad 1)) (C := RX2) (ref := RX2) (fs := [.ref (ad 1), .ref (ad 2), .int af, .int cf]) hx hb hown hts hG gX2 rfl fp_0 (by decide) t_53 rfl rfl dX2_refusalOfMapped_21 ?_
  refine lv_iload_n hx hb dX2_refusalOfMapped_24 rfl (lv_at hl 1 rfl) ?_
  refine g_aald (i := j) (t0 := 1) hx hb hG fp_1 rfl (hj) (by decide) rfl dX2_refusalOfMapped_25 ?_
  refine lv_iload_n hx hb dX2_refusalOfMapped_26 rfl (lv_at hl 2 rfl) ?_
  refine g_callVN (As := [.int (nI k)]) (rest := []) (fs := [.int (bI (run j)), .long (en (mp j)), .ref (ad (6 + 3 * j)), .ref (ad (7 + 3 * j))]) (fm_has_t hj hk h2) hx hb hml hown hts hN hG t_101 t_103 s_5 t_2 t_104 nm_X0_has ⟨by decide, by decide⟩ (fp_5 (hj)) rfl hl.1 (Nat.le_of_ble_eq_true rfl) dX2_refusalOfMapped_27 ⟨Nat.zero_le _, Nat.zero_le _⟩ (fun H locs hG => ?_)
  refine W.eq (g2 := F0 m 30 ls [.int 1]) rfl ?_
  refine lv_if_eq (tgt := 37) hx hb dX2_refusalOfMapped_30 rfl (fun hh => absurd hh (by decide)) (fun _ => ?_)
  refine lv_iconst (v := 0) hx hb dX2_refusalOfMapped_33 (by decide) ?_
  refine lv_goto (tgt := 39) hx hb dX2_refusalOfMapped_34 rfl ?_
  exact g_iret hx hb hr hlk hG dX2_refusalOfMapped_39
set_option maxHeartbeats 4000000 in
set_option maxRecDepth 100000 in
theorem fm_rA_neg {x a r : Int32} (h : a < 0) (hM : gM l yX2_refusalOfMapped cX2_refusalOfMapped 3 (some .int) 1 21 D cls (fpT cI cQ cZ) A (fpW ad cI cQ run mp fr kd wd ct af cf) [.ref (ad 0), .int x, .int (-1)] (some (.int r)) (fpW ad cI cQ run mp fr kd wd ct af cf)) : gM l yX2_refusalOfAddress cX2_refusalOfAddress 3 (some .int) 2 43 D cls (fpT cI cQ cZ) A (fpW ad cI cQ run mp fr kd wd ct af cf) [.ref (ad 0), .int x, .int a] (some (.int r)) (fpW ad cI cQ run mp fr kd wd ct af cf) := by
  refine gM_of (by decide) (Nat.le_of_ble_eq_true rfl) ?_
  intro p e s m args below meth c ls hx hb hml hown hts hN hr hlk hl hG
  have hown : s.vm.findClass RX2 = some m.cls := hown
  have hl : lv_has ls 3 [(0, .ref (ad 0)), (1, .int x), (2, .int a)] := hl
  refine lv_aload_n hx hb dX2_refusalOfAddress_0 rfl (lv_at hl 0 rfl) ?_
  refine lv_iload_n hx hb dX2_refusalOfAddress_1 rfl (lv_at hl 1 rfl) ?_
  refine lv_iload_n hx hb dX2_refusalOfAddress_2 rfl (lv_at hl 2 rfl) ?_
  refine lv_if_ge (tgt := 10) hx hb dX2_refusalOfAddress_3 rfl (fun hh => absurd hh (Int32.not_le.mpr h)) (fun _ => ?_)
  refine lv_iconst (v := (-1)) hx hb dX2_refusalOfAddress_6 (by decide) ?_
  refine lv_goto (tgt := 13) hx hb dX2_refusalOfAddress_7 rfl ?_
  refine g_callV (As := [.int x, .int (-1)]) (rest := []) (fs := [.ref (ad 1), .ref (ad 2), .int af, .int cf]) (hM) hx hb hml hown hts hN hG t_165 t_167 s_16 t_1 t_168 nm_X2_refusalOfMapped ⟨by decide, by decide⟩ fp_0 rfl hl.1 (Nat.le_of_ble_eq_true rfl) dX2_refusalOfAddress_13 ⟨Nat.zero_le _, Nat.zero_le _⟩ (fun H locs hG => ?_)
  refine W.eq (g2 := F0 m 16 ls [.int r]) rfl ?_
  exact g_iret hx hb hr hlk hG dX2_refusalOfAddress_16
set_option maxHeartbeats 4000000 in
set_option maxRecDepth 100000 in
theorem fm_rA_pos {x a r : Int32} (h : ¬ a < 0) (hM : gM l yX2_refusalOfMapped cX2_refusalOfMapped 3 (some .int) 1 21 D cls (fpT cI cQ cZ) A (fpW ad cI cQ run mp fr kd wd ct af cf) [.ref (ad 0), .int x, .int (a / nI 4)] (some (.int r)) (fpW ad cI cQ run mp fr kd wd ct af cf)) : gM l yX2_refusalOfAddress cX2_refusalOfAddress 3 (some .int) 2 43 D cls (fpT cI cQ cZ) A (fpW ad cI cQ run mp fr kd wd ct af cf) [.ref (ad 0), .int x, .int a] (some (.int r)) (fpW ad cI cQ run mp fr kd wd ct af cf) := by
  refine gM_of (by decide) (Nat.le_of_ble_eq_true rfl) ?_
  intro p e s m args below meth c ls hx hb hml hown hts hN hr hlk hl hG
  have hown : s.vm.findClass RX2 = some m.cls := hown
  have hl : lv_has ls 3 [(0, .ref (ad 0)), (1, .int x), (2, .int a)] := hl
  refine lv_aload_n hx hb dX2_refusalOfAddress_0 rfl (lv_at hl 0 rfl) ?_
  refine lv_iload_n hx hb dX2_refusalOfAddress_1 rfl (lv_at hl 1 rfl) ?_
  refine lv_iload_n hx hb dX2_refusalOfAddress_2 rfl (lv_at hl 2 rfl) ?_
  refine lv_if_ge (tgt := 10) hx hb dX2_refusalOfAddress_3 rfl (fun _ => ?_) (fun hh => absurd (Int32.not_lt.mp h) hh)
  refine lv_iload_n hx hb dX2_refusalOfAddress_10 rfl (lv_at hl 2 rfl) ?_
  refine lv_iconst (v := nI 4) hx hb dX2_refusalOfAddress_11 (by decide) ?_
  refine lv_idiv hx hb dX2_refusalOfAddress_12 (by decide) ?_
  refine g_callV (As := [.int x, .int (a / (nI 4))]) (rest := []) (fs := [.ref (ad 1), .ref (ad 2), .int af, .int cf]) (hM) hx hb hml hown hts hN hG t_165 t_167 s_16 t_1 t_168 nm_X2_refusalOfMapped ⟨by decide, by decide⟩ fp_0 rfl hl.1 (Nat.le_of_ble_eq_true rfl) dX2_refusalOfAddress_13 ⟨Nat.zero_le _, Nat.zero_le _⟩ (fun H locs hG => ?_)
  refine W.eq (g2 := F0 m 16 ls [.int r]) rfl ?_
  exact g_iret hx hb hr hlk hG dX2_refusalOfAddress_16
set_option maxHeartbeats 4000000 in
set_option maxRecDepth 100000 in
theorem fm_leastIdle_t {j : Nat} (hj : j < 5) (h : run j = false) (hm : ∀ i, i < j → run i = true) : gM l yX2_leastIdle cX2_leastIdle 2 (some .int) 0 0 D cls (fpT cI cQ cZ) A (fpW ad cI cQ run mp fr kd wd ct af cf) [.ref (ad 0)] (some (.int (nI j))) (fpW ad cI cQ run mp fr kd wd ct af cf) := by
  refine gM_of (by decide) (Nat.le_of_ble_eq_true rfl) ?_
  intro p e s m args below meth c ls hx hb hml hown hts hN hr hlk hl hG
  have hown : s.vm.findClass RX2 = some m.cls := hown
  have hl : lv_has ls 2 [(0, .ref (ad 0))] := hl
  refine lv_iconst (v := nI 0) hx hb dX2_leastIdle_0 (by decide) ?_
  refine lv_istore_n (lv' := [(1, .int (nI 0)), (0, .ref (ad 0))]) hx hb dX2_leastIdle_1 rfl hl (by decide) rfl (fun ls hl => ?_)
  have loop : ∀ (n i : Nat) (ls : Array Slot), i + n = j → lv_has ls 2 [(1, .int (nI i)), (0, .ref (ad 0))] → W p l e (gR 0 0) s m args below meth c s.heap [] 0 0 (gQ below args s D cls (fpT cI cQ cZ) A (some (.int (nI j))) (fpW ad cI cQ run mp fr kd wd ct af cf)) (F0 m 2 ls []) := by
    intro n
    induction n with
    | zero =>
      intro i ls hi hl
      obtain rfl : i = j := by omega
      refine lv_iload_n hx hb dX2_leastIdle_2 rfl (lv_at hl 0 rfl) ?_
      refine lv_iconst (v := nI 5) hx hb dX2_leastIdle_3 (by decide) ?_
      refine lv_icmp_ge (tgt := 27) hx hb dX2_leastIdle_4 rfl (fun hh => absurd hh (nI_ge hj (by decide))) (fun _ => ?_)
      refine lv_aload_n hx hb dX2_leastIdle_7 rfl (lv_at hl 1 rfl) ?_
      refine g_get (k := 0) (v := .ref (ad 1)) (C := RX2) (ref := RX2) (fs := [.ref (ad 1), .ref (ad 2), .int af, .int cf]) hx hb hown hts hG gX2 rfl fp_0 (by decide) t_53 rfl rfl dX2_leastIdle_8 ?_
      refine lv_iload_n hx hb dX2_leastIdle_11 rfl (lv_at hl 0 rfl) ?_
      refine g_aald (i := i) (t0 := 1) hx hb hG fp_1 rfl (hj) (by decide) rfl dX2_leastIdle_12 ?_
      refine g_getN (k := 0) (v := .int (bI (run i))) (C := RX0) (ref := RX0) (fs := [.int (bI (run i)), .long (en (mp i)), .ref (ad (6 + 3 * i)), .ref (ad (7 + 3 * i))]) hx hb hown hts hN hG gX0 rfl (fp_5 (hj)) (by decide) t_21 rfl rfl dX2_leastIdle_13 ?_
      refine g_top (y := 0) (by rw [h]; rfl) ?_
      refine lv_if_ne (tgt := 21) hx hb dX2_leastIdle_16 rfl (fun hh => absurd (rfl) hh) (fun _ => ?_)
      refine lv_iload_n hx hb dX2_leastIdle_19 rfl (lv_at hl 0 rfl) ?_
      exact g_iret hx hb hr hlk hG dX2_leastIdle_20
    | succ n ih =>
      intro i ls hi hl
      have hi5 : i < 5 := by omega
      refine lv_iload_n hx hb dX2_leastIdle_2 rfl (lv_at hl 0 rfl) ?_
      refine lv_iconst (v := nI 5) hx hb dX2_leastIdle_3 (by decide) ?_
      refine lv_icmp_ge (tgt := 27) hx hb dX2_leastIdle_4 rfl (fun hh => absurd hh (nI_ge hi5 (by decide))) (fun _ => ?_)
      refine lv_aload_n hx hb dX2_leastIdle_7 rfl (lv_at hl 1 rfl) ?_
      refine g_get (k := 0) (v := .ref (ad 1)) (C := RX2) (ref := RX2) (fs := [.ref (ad 1), .ref (ad 2), .int af, .int cf]) hx hb hown hts hG gX2 rfl fp_0 (by decide) t_53 rfl rfl dX2_leastIdle_8 ?_
      refine lv_iload_n hx hb dX2_leastIdle_11 rfl (lv_at hl 0 rfl) ?_
      refine g_aald (i := i) (t0 := 1) hx hb hG fp_1 rfl (hi5) (by decide) rfl dX2_leastIdle_12 ?_
      refine g_getN (k := 0) (v := .int (bI (run i))) (C := RX0) (ref := RX0) (fs := [.int (bI (run i)), .long (en (mp i)), .ref (ad (6 + 3 * i)), .ref (ad (7 + 3 * i))]) hx hb hown hts hN hG gX0 rfl (fp_5 (hi5)) (by decide) t_21 rfl rfl dX2_leastIdle_13 ?_
      refine g_top (y := 1) (by rw [hm i (by omega)]; rfl) ?_
      refine lv_if_ne (tgt := 21) hx hb dX2_leastIdle_16 rfl (fun _ => ?_) (fun hh => absurd hh (by decide))
      refine lv_iinc (k := 0) (v := nI (i + 1)) (lv' := [(1, .int (nI (i + 1))), (0, .ref (ad 0))]) hx hb dX2_leastIdle_21 hl rfl (nI_1 i) (by decide) rfl (fun ls hl => ?_)
      refine lv_goto (tgt := 2) hx hb dX2_leastIdle_24 rfl ?_
      exact ih (i + 1) _ (by omega) (lv_sub hl [0, 1] rfl)
  exact loop j 0 _ (by omega) (lv_sub hl [0, 1] rfl)
set_option maxHeartbeats 4000000 in
set_option maxRecDepth 100000 in
theorem fm_leastIdle_n (hm : ∀ i, i < 5 → run i = true) : gM l yX2_leastIdle cX2_leastIdle 2 (some .int) 0 0 D cls (fpT cI cQ cZ) A (fpW ad cI cQ run mp fr kd wd ct af cf) [.ref (ad 0)] (some (.int (-1))) (fpW ad cI cQ run mp fr kd wd ct af cf) := by
  refine gM_of (by decide) (Nat.le_of_ble_eq_true rfl) ?_
  intro p e s m args below meth c ls hx hb hml hown hts hN hr hlk hl hG
  have hown : s.vm.findClass RX2 = some m.cls := hown
  have hl : lv_has ls 2 [(0, .ref (ad 0))] := hl
  refine lv_iconst (v := nI 0) hx hb dX2_leastIdle_0 (by decide) ?_
  refine lv_istore_n (lv' := [(1, .int (nI 0)), (0, .ref (ad 0))]) hx hb dX2_leastIdle_1 rfl hl (by decide) rfl (fun ls hl => ?_)
  have loop : ∀ (n i : Nat) (ls : Array Slot), i + n = 5 → lv_has ls 2 [(1, .int (nI i)), (0, .ref (ad 0))] → W p l e (gR 0 0) s m args below meth c s.heap [] 0 0 (gQ below args s D cls (fpT cI cQ cZ) A (some (.int (-1))) (fpW ad cI cQ run mp fr kd wd ct af cf)) (F0 m 2 ls []) := by
    intro n
    induction n with
    | zero =>
      intro i ls hi hl
      obtain rfl : i = 5 := by omega
      refine lv_iload_n hx hb dX2_leastIdle_2 rfl (lv_at hl 0 rfl) ?_
      refine lv_iconst (v := nI 5) hx hb dX2_leastIdle_3 (by decide) ?_
      refine lv_icmp_ge (tgt := 27) hx hb dX2_leastIdle_4 rfl (fun _ => ?_) (fun hh => absurd (nI_le (Nat.le_refl 5) (by decide)) hh)
      refine lv_iconst (v := (-1)) hx hb dX2_leastIdle_27 (by decide) ?_
      exact g_iret hx hb hr hlk hG dX2_leastIdle_28
    | succ n ih =>
      intro i ls hi hl
      have hi5 : i < 5 := by omega
      refine lv_iload_n hx hb dX2_leastIdle_2 rfl (lv_at hl 0 rfl) ?_
      refine lv_iconst (v := nI 5) hx hb dX2_leastIdle_3 (by decide) ?_
      refine lv_icmp_ge (tgt := 27) hx hb dX2_leastIdle_4 rfl (fun hh => absurd hh (nI_ge hi5 (by decide))) (fun _ => ?_)
      refine lv_aload_n hx hb dX2_leastIdle_7 rfl (lv_at hl 1 rfl) ?_
      refine g_get (k := 0) (v := .ref (ad 1)) (C := RX2) (ref := RX2) (fs := [.ref (ad 1), .ref (ad 2), .int af, .int cf]) hx hb hown hts hG gX2 rfl fp_0 (by decide) t_53 rfl rfl dX2_leastIdle_8 ?_
      refine lv_iload_n hx hb dX2_leastIdle_11 rfl (lv_at hl 0 rfl) ?_
      refine g_aald (i := i) (t0 := 1) hx hb hG fp_1 rfl (hi5) (by decide) rfl dX2_leastIdle_12 ?_
      refine g_getN (k := 0) (v := .int (bI (run i))) (C := RX0) (ref := RX0) (fs := [.int (bI (run i)), .long (en (mp i)), .ref (ad (6 + 3 * i)), .ref (ad (7 + 3 * i))]) hx hb hown hts hN hG gX0 rfl (fp_5 (hi5)) (by decide) t_21 rfl rfl dX2_leastIdle_13 ?_
      refine g_top (y := 1) (by rw [hm i (by omega)]; rfl) ?_
      refine lv_if_ne (tgt := 21) hx hb dX2_leastIdle_16 rfl (fun _ => ?_) (fun hh => absurd hh (by decide))
      refine lv_iinc (k := 0) (v := nI (i + 1)) (lv' := [(1, .int (nI (i + 1))), (0, .ref (ad 0))]) hx hb dX2_leastIdle_21 hl rfl (nI_1 i) (by decide) rfl (fun ls hl => ?_)
      refine lv_goto (tgt := 2) hx hb dX2_leastIdle_24 rfl ?_
      exact ih (i + 1) _ (by omega) (lv_sub hl [0, 1] rfl)
  exact loop 5 0 _ (by omega) (lv_sub hl [0, 1] rfl)
set_option maxHeartbeats 4000000 in
set_option maxRecDepth 100000 in
theorem fm_freeFrames  : gM l yX2_freeFrames cX2_freeFrames 3 (some .int) 3 68 D cls (fpT cI cQ cZ) A (fpW ad cI cQ run mp fr kd wd ct af cf) [.ref (ad 0)] (some (.int (frF run mp ct))) (fpW ad cI cQ run mp fr kd wd ct af cf) := by
  refine gM_of (by decide) (Nat.le_of_ble_eq_true rfl) ?_
  intro p e s m args below meth c ls hx hb hml hown hts hN hr hlk hl hG
  have hown : s.vm.findClass RX2 = some m.cls := hown
  have hl : lv_has ls 3 [(0, .ref (ad 0))] := hl
  refine lv_bipush (v := nI 24) hx hb dX2_freeFrames_0 (by decide) ?_
  refine lv_aload_n hx hb dX2_freeFrames_2 rfl (lv_at hl 0 rfl) ?_
  refine g_get (k := 1) (v := .ref (ad 2)) (C := RX2) (ref := RX2) (fs := [.ref (ad 1), .ref (ad 2), .int af, .int cf]) hx hb hown hts hG gX2 rfl fp_0 (by decide) t_54 rfl rfl dX2_freeFrames_3 ?_
  refine g_callVN (As := []) (rest := [.int (nI 24)]) (fs := [.ref (ad 3), .ref (ad 4)]) (fm_usedFrames) hx hb hml hown hts hN hG t_78 t_80 s_2 t_3 t_81 nm_X1_usedFrames ⟨by decide, by decide⟩ fp_2 rfl hl.1 (Nat.le_of_ble_eq_true rfl) dX2_freeFrames_6 ⟨Nat.zero_le _, Nat.zero_le _⟩ (fun H locs hG => ?_)
  refine W.eq (g2 := F0 m 9 ls [.int (nI (usN ct 24)), .int (nI 24)]) rfl ?_
  refine lv_isub hx hb dX2_freeFrames_9 ?_
  refine lv_istore_n (lv' := [(1, .int ((nI 24) - (nI (usN ct 24)))), (0, .ref (ad 0))]) hx hb dX2_freeFrames_10 rfl hl (by decide) rfl (fun ls hl => ?_)
  refine lv_iconst (v := nI 0) hx hb dX2_freeFrames_11 (by decide) ?_
  refine lv_istore_n (lv' := [(2, .int (nI 0)), (1, .int ((nI 24) - (nI (usN ct 24)))), (0, .ref (ad 0))]) hx hb dX2_freeFrames_12 rfl hl (by decide) rfl (fun ls hl => ?_)
  have loop : ∀ (n i : Nat) (H : Heap) (locs : List Loc) (ls : Array Slot), i + n = 5 → gG D cls (fpT cI cQ cZ) A s (fpW ad cI cQ run mp fr kd wd ct af cf) H locs → lv_has ls 3 [(2, .int (nI i)), (1, .int (frL run mp (nI 24 - nI (usN ct 24)) i)), (0, .ref (ad 0))] → W p l e (gR 3 68) s m args below meth c H locs 0 0 (gQ below args s D cls (fpT cI cQ cZ) A (some (.int (frF run mp ct))) (fpW ad cI cQ run mp fr kd wd ct af cf)) (F0 m 13 ls []) := by
    intro n
    induction n with
    | zero =>
      intro i H locs ls hi hG hl
      obtain rfl : i = 5 := by omega
      refine lv_iload_n hx hb dX2_freeFrames_13 rfl (lv_at hl 0 rfl) ?_
      refine lv_iconst (v := nI 5) hx hb dX2_freeFrames_14 (by decide) ?_
      refine lv_icmp_ge (tgt := 48) hx hb dX2_freeFrames_15 rfl (fun _ => ?_) (fun hh => absurd (nI_le (Nat.le_refl 5) (by decide)) hh)
      refine lv_iload_n hx hb dX2_freeFrames_48 rfl (lv_at hl 1 rfl) ?_
      exact g_iret hx hb hr hlk hG dX2_freeFrames_49
    | succ n ih =>
      intro i H locs ls hi hG hl
      have hi5 : i < 5 := by omega
      cases hc : run i
      · have hu : frL run mp (nI 24 - nI (usN ct 24)) (i + 1) = frL run mp (nI 24 - nI (usN ct 24)) i := by simp [frL, hc]
        refine lv_iload_n hx hb dX2_freeFrames_13 rfl (lv_at hl 0 rfl) ?_
        refine lv_iconst (v := nI 5) hx hb dX2_freeFrames_14 (by decide) ?_
        refine lv_icmp_ge (tgt := 48) hx hb dX2_freeFrames_15 rfl (fun hh => absurd hh (nI_ge hi5 (by decide))) (fun _ => ?_)
        refine lv_aload_n hx hb dX2_freeFrames_18 rfl (lv_at hl 2 rfl) ?_
        refine g_get (k := 0) (v := .ref (ad 1)) (C := RX2) (ref := RX2) (fs := [.ref (ad 1), .ref (ad 2), .int af, .int cf]) hx hb hown hts hG gX2 rfl fp_0 (by decide) t_53 rfl rfl dX2_freeFrames_19 ?_
        refine lv_iload_n hx hb dX2_freeFrames_22 rfl (lv_at hl 0 rfl) ?_
        refine g_aald (i := i) (t0 := 1) hx hb hG fp_1 rfl (hi5) (by decide) rfl dX2_freeFrames_23 ?_
        refine g_getN (k := 0) (v := .int (bI (run i))) (C := RX0) (ref := RX0) (fs := [.int (bI (run i)), .long (en (mp i)), .ref (ad (6 + 3 * i)), .ref (ad (7 + 3 * i))]) hx hb hown hts hN hG gX0 rfl (fp_5 (hi5)) (by decide) t_21 rfl rfl dX2_freeFrames_24 ?_
        refine g_top (y := 0) (by rw [hc]; rfl) ?_
        refine lv_if_eq (tgt := 42) hx hb dX2_freeFrames_27 rfl (fun _ => ?_) (fun hh => absurd (rfl) hh)
        refine lv_iinc (k := 0) (v := nI (i + 1)) (lv' := [(2, .int (nI (i + 1))), (1, .int (frL run mp (nI 24 - nI (usN ct 24)) i)), (0, .ref (ad 0))]) hx hb dX2_freeFrames_42 hl rfl (nI_1 i) (by decide) rfl (fun ls hl => ?_)
        refine lv_goto (tgt := 13) hx hb dX2_freeFrames_45 rfl ?_
        exact ih (i + 1) _ _ _ (by omega) hG (by rw [hu]; exact lv_sub hl [0, 1, 2] rfl)
      · have hu : frL run mp (nI 24 - nI (usN ct 24)) (i + 1) = frL run mp (nI 24 - nI (usN ct 24)) i - nI (tbN (mp i)) := by simp [frL, hc]
        refine lv_iload_n hx hb dX2_freeFrames_13 rfl (lv_at hl 0 rfl) ?_
        refine lv_iconst (v := nI 5) hx hb dX2_freeFrames_14 (by decide) ?_
        refine lv_icmp_ge (tgt := 48) hx hb dX2_freeFrames_15 rfl (fun hh => absurd hh (nI_ge hi5 (by decide))) (fun _ => ?_)
        refine lv_aload_n hx hb dX2_freeFrames_18 rfl (lv_at hl 2 rfl) ?_
        refine g_get (k := 0) (v := .ref (ad 1)) (C := RX2) (ref := RX2) (fs := [.ref (ad 1), .ref (ad 2), .int af, .int cf]) hx hb hown hts hG gX2 rfl fp_0 (by decide) t_53 rfl rfl dX2_freeFrames_19 ?_
        refine lv_iload_n hx hb dX2_freeFrames_22 rfl (lv_at hl 0 rfl) ?_
        refine g_aald (i := i) (t0 := 1) hx hb hG fp_1 rfl (hi5) (by decide) rfl dX2_freeFrames_23 ?_
        refine g_getN (k := 0) (v := .int (bI (run i))) (C := RX0) (ref := RX0) (fs := [.int (bI (run i)), .long (en (mp i)), .ref (ad (6 + 3 * i)), .ref (ad (7 + 3 * i))]) hx hb hown hts hN hG gX0 rfl (fp_5 (hi5)) (by decide) t_21 rfl rfl dX2_freeFrames_24 ?_
        refine g_top (y := 1) (by rw [hc]; rfl) ?_
        refine lv_if_eq (tgt := 42) hx hb dX2_freeFrames_27 rfl (fun hh => absurd hh (by decide)) (fun _ => ?_)
        refine lv_iload_n hx hb dX2_freeFrames_30 rfl (lv_at hl 1 rfl) ?_
        refine lv_aload_n hx hb dX2_freeFrames_31 rfl (lv_at hl 2 rfl) ?_
        refine g_get (k := 0) (v := .ref (ad 1)) (C := RX2) (ref := RX2) (fs := [.ref (ad 1), .ref (ad 2), .int af, .int cf]) hx hb hown hts hG gX2 rfl fp_0 (by decide) t_53 rfl rfl dX2_freeFrames_32 ?_
        refine lv_iload_n hx hb dX2_freeFrames_35 rfl (lv_at hl 0 rfl) ?_
        refine g_aald (i := i) (t0 := 1) hx hb hG fp_1 rfl (hi5) (by decide) rfl dX2_freeFrames_36 ?_
        refine g_callVN (As := []) (rest := [.int (frL run mp (nI 24 - nI (usN ct 24)) i)]) (fs := [.int (bI (run i)), .long (en (mp i)), .ref (ad (6 + 3 * i)), .ref (ad (7 + 3 * i))]) (fm_tableCount hi5) hx hb hml hown hts hN hG t_82 t_84 s_3 t_2 t_85 nm_X0_tableCount ⟨by decide, by decide⟩ (fp_5 (hi5)) rfl hl.1 (Nat.le_of_ble_eq_true rfl) dX2_freeFrames_37 ⟨Nat.zero_le _, Nat.zero_le _⟩ (fun H locs hG => ?_)
        refine W.eq (g2 := F0 m 40 ls [.int (nI (tbN (mp i))), .int (frL run mp (nI 24 - nI (usN ct 24)) i)]) rfl ?_
        refine lv_isub hx hb dX2_freeFrames_40 ?_
        refine lv_istore_n (lv' := [(1, .int ((frL run mp (nI 24 - nI (usN ct 24)) i) - (nI (tbN (mp i))))), (2, .int (nI i)), (0, .ref (ad 0))]) hx hb dX2_freeFrames_41 rfl hl (by decide) rfl (fun ls hl => ?_)
        refine lv_iinc (k := 1) (v := nI (i + 1)) (lv' := [(2, .int (nI (i + 1))), (1, .int ((frL run mp (nI 24 - nI (usN ct 24)) i) - (nI (tbN (mp i))))), (0, .ref (ad 0))]) hx hb dX2_freeFrames_42 hl rfl (nI_1 i) (by decide) rfl (fun ls hl => ?_)
        refine lv_goto (tgt := 13) hx hb dX2_freeFrames_45 rfl ?_
        exact ih (i + 1) _ _ _ (by omega) hG (by rw [hu]; exact lv_sub hl [0, 1, 2] rfl)
  exact loop 5 0 _ _ _ (by omega) hG (lv_sub hl [0, 1, 2] rfl)
set_option maxHeartbeats 4000000 in
set_option maxRecDepth 100000 in
theorem fm_startMapping {j k : Nat} (hj : j < 5) (hk : k < 64) {f : Nat} {v : Int32} (hf : f < 24) : gM l yX2_startMapping cX2_startMapping 5 none 1 23 D cls (fpT cI cQ cZ) A (fpW ad cI cQ run mp fr kd wd ct af cf) [.ref (ad 0), .ref (ad (5 + 3 * j)), .int (nI k), .int (nI f), .int v] none (fpW ad cI cQ run (up1 mp j (up1 (mp j) k true)) (up1 fr j (up1 (fr j) k f)) (up1 kd j (upd (kd j) k v)) wd (upd ct f (ct f + 1)) af cf) := by
  refine gM_of (by decide) (Nat.le_of_ble_eq_true rfl) ?_
  intro p e s m args below meth c ls hx hb hml hown hts hN hr hlk hl hG
  have hown : s.vm.findClass RX2 = some m.cls := hown
  have hl : lv_has ls 5 [(0, .ref (ad 0)), (1, .ref (ad (5 + 3 * j))), (2, .int (nI k)), (3, .int (nI f)), (4, .int v)] := hl
  refine lv_aload_n hx hb dX2_startMapping_0 rfl (lv_at hl 1 rfl) ?_
  refine lv_iload_n hx hb dX2_startMapping_1 rfl (lv_at hl 2 rfl) ?_
  refine lv_iload_n hx hb dX2_startMapping_2 rfl (lv_at hl 3 rfl) ?_
  refine lv_iload hx hb dX2_startMapping_3 (lv_at hl 4 rfl) ?_
  refine g_callVN (As := [.int (nI k), .int (nI f), .int v]) (rest := []) (fs := [.int (bI (run j)), .long (en (mp j)), .ref (ad (6 + 3 * j)), .ref (ad (7 + 3 * j))]) (fm_set hj hk) hx hb hml hown hts hN hG t_121 t_123 s_10 t_2 t_124 nm_X0_set ⟨by decide, by decide⟩ (fp_5 (hj)) rfl hl.1 (Nat.le_of_ble_eq_true rfl) dX2_startMapping_5 ⟨Nat.zero_le _, Nat.zero_le _⟩ (fun H locs hG => ?_)
  refine W.eq (g2 := F0 m 8 ls []) rfl ?_
  refine lv_aload_n hx hb dX2_startMapping_8 rfl (lv_at hl 0 rfl) ?_
  refine g_get (k := 1) (v := .ref (ad 2)) (C := RX2) (ref := RX2) (fs := [.ref (ad 1), .ref (ad 2), .int af, .int cf]) hx hb hown hts hG gX2 rfl fp_0 (by decide) t_54 rfl rfl dX2_startMapping_9 ?_
  refine g_getN (k := 1) (v := .ref (ad 4)) (C := RX1) (ref := RX1) (fs := [.ref (ad 3), .ref (ad 4)]) hx hb hown hts hN hG gX1 rfl fp_2 (by decide) t_47 rfl rfl dX2_startMapping_12 ?_
  refine lv_iload_n hx hb dX2_startMapping_15 rfl (lv_at hl 3 rfl) ?_
  refine lv_dup2_11 hx hb dX2_startMapping_16 rfl rfl ?_
  refine g_iald (i := f) (t0 := 0) hx hb hG fp_4 rfl (hf) (by decide) dX2_startMapping_17 ?_
  refine lv_iconst (v := 1) hx hb dX2_startMapping_18 (by decide) ?_
  refine lv_iadd hx hb dX2_startMapping_19 ?_
  refine g_iast (i := f) (x := (ct f) + 1) (t0 := 0) (ws' := fpW ad cI cQ run (up1 mp j (up1 (mp j) k true)) (up1 fr j (up1 (fr j) k f)) (up1 kd j (upd (kd j) k v)) wd (upd ct f (ct f + 1)) af cf) hx hb hG fp_4 rfl (hf) (by decide) (fp_s4 _) dX2_startMapping_20 (fun H locs hG => ?_)
  exact g_vret hx hb hr hlk hG dX2_startMapping_21
set_option maxHeartbeats 4000000 in
set_option maxRecDepth 100000 in
theorem fm_endMapping {j k : Nat} (hj : j < 5) (hk : k < 64) (hf : fr j k < 24) : gM l yX2_endMapping cX2_endMapping 3 none 1 21 D cls (fpT cI cQ cZ) A (fpW ad cI cQ run mp fr kd wd ct af cf) [.ref (ad 0), .ref (ad (5 + 3 * j)), .int (nI k)] none (fpW ad cI cQ run (up1 mp j (up1 (mp j) k false)) fr kd wd (upd ct (fr j k) (ct (fr j k) - 1)) af cf) := by
  refine gM_of (by decide) (Nat.le_of_ble_eq_true rfl) ?_
  intro p e s m args below meth c ls hx hb hml hown hts hN hr hlk hl hG
  have hown : s.vm.findClass RX2 = some m.cls := hown
  have hl : lv_has ls 3 [(0, .ref (ad 0)), (1, .ref (ad (5 + 3 * j))), (2, .int (nI k))] := hl
  refine lv_aload_n hx hb dX2_endMapping_0 rfl (lv_at hl 0 rfl) ?_
  refine g_get (k := 1) (v := .ref (ad 2)) (C := RX2) (ref := RX2) (fs := [.ref (ad 1), .ref (ad 2), .int af, .int cf]) hx hb hown hts hG gX2 rfl fp_0 (by decide) t_54 rfl rfl dX2_endMapping_1 ?_
  refine g_getN (k := 1) (v := .ref (ad 4)) (C := RX1) (ref := RX1) (fs := [.ref (ad 3), .ref (ad 4)]) hx hb hown hts hN hG gX1 rfl fp_2 (by decide) t_47 rfl rfl dX2_endMapping_4 ?_
  refine lv_aload_n hx hb dX2_endMapping_7 rfl (lv_at hl 1 rfl) ?_
  refine g_getN (k := 2) (v := .ref (ad (6 + 3 * j))) (C := RX0) (ref := RX0) (fs := [.int (bI (run j)), .long (en (mp j)), .ref (ad (6 + 3 * j)), .ref (ad (7 + 3 * j))]) hx hb hown hts hN hG gX0 rfl (fp_5 (hj)) (by decide) t_25 rfl rfl dX2_endMapping_8 ?_
  refine lv_iload_n hx hb dX2_endMapping_11 rfl (lv_at hl 2 rfl) ?_
  refine g_iald (i := k) (t0 := 0) hx hb hG (fp_6 (hj)) rfl (hk) (by decide) dX2_endMapping_12 ?_
  refine lv_dup2_11 hx hb dX2_endMapping_13 rfl rfl ?_
  refine g_iald (i := (fr j k)) (t0 := 0) hx hb hG fp_4 rfl (hf) (by decide) dX2_endMapping_14 ?_
  refine lv_iconst (v := 1) hx hb dX2_endMapping_15 (by decide) ?_
  refine lv_isub hx hb dX2_endMapping_16 ?_
  refine g_iast (i := (fr j k)) (x := (ct (fr j k)) - 1) (t0 := 0) (ws' := fpW ad cI cQ run mp fr kd wd (upd ct (fr j k) (ct (fr j k) - 1)) af cf) hx hb hG fp_4 rfl (hf) (by decide) (fp_s4 _) dX2_endMapping_17 (fun H locs hG => ?_)
  refine lv_aload_n hx hb dX2_endMapping_18 rfl (lv_at hl 1 rfl) ?_
  refine lv_iload_n hx hb dX2_endMapping_19 rfl (lv_at hl 2 rfl) ?_
  refine g_callVN (As := [.int (nI k)]) (rest := []) (fs := [.int (bI (run j)), .long (en (mp j)), .ref (ad (6 + 3 * j)), .ref (ad (7 + 3 * j))]) (fm_clear hj hk) hx hb hml hown hts hN hG t_133 t_135 s_12 t_2 t_136 nm_X0_clear ⟨by decide, by decide⟩ (fp_5 (hj)) rfl hl.1 (Nat.le_of_ble_eq_true rfl) dX2_endMapping_20 ⟨Nat.zero_le _, Nat.zero_le _⟩ (fun H locs hG => ?_)
  refine W.eq (g2 := F0 m 23 ls []) rfl ?_
  exact g_vret hx hb hr hlk hG dX2_endMapping_23
def shK (kd : Nat → Nat → Int32) (j k : Nat) : Nat → Nat → Int32 := if kd j k &&& 2 = 0 ∧ kd j k &&& 4 = 0 then up1 kd j (upd (kd j) k (kd j k ^^^ 4)) else kd
set_option maxHeartbeats 4000000 in
set_option maxRecDepth 100000 in
theorem fm_share_c {j n k : Nat} (hj : j < 5) (hn : n < 5) (hk : k < 64) (hf : fr j k < 24) (h : ¬ kd j k &&& 2 = 0) : gM l yX2_sharePage cX2_sharePage 4 none 2 47 D cls (fpT cI cQ cZ) A (fpW ad cI cQ run mp fr kd wd ct af cf) [.ref (ad 0), .ref (ad (5 + 3 * j)), .ref (ad (5 + 3 * n)), .int (nI k)] none (fpW ad cI cQ run (up1 mp n (up1 (mp n) k true)) (up1 fr n (up1 (fr n) k (fr j k))) (up1 kd n (upd (kd n) k (kd j k))) wd (upd ct (fr j k) (ct (fr j k) + 1)) af cf) := by
  refine gM_of (by decide) (Nat.le_of_ble_eq_true rfl) ?_
  intro p e s m args below meth c ls hx hb hml hown hts hN hr hlk hl hG
  have hown : s.vm.findClass RX2 = some m.cls := hown
  have hl : lv_has ls 4 [(0, .ref (ad 0)), (1, .ref (ad (5 + 3 * j))), (2, .ref (ad (5 + 3 * n))), (3, .int (nI k))] := hl
  refine lv_aload_n hx hb dX2_sharePage_0 rfl (lv_at hl 1 rfl) ?_
  refine lv_iconst (v := 2) hx hb dX2_sharePage_1 (by decide) ?_
  refine lv_iload_n hx hb dX2_sharePage_2 rfl (lv_at hl 3 rfl) ?_
  refine g_callVN (As := [.int 2, .int (nI k)]) (rest := []) (fs := [.int (bI (run j)), .long (en (mp j)), .ref (ad (6 + 3 * j)), .ref (ad (7 + 3 * j))]) (fm_is_t hj hk h) hx hb hml hown hts hN hG t_109 t_111 s_7 t_2 t_112 nm_X0_is ⟨by decide, by decide⟩ (fp_5 (hj)) rfl hl.1 (Nat.le_of_ble_eq_true rfl) dX2_sharePage_3 ⟨Nat.zero_le _, Nat.zero_le _⟩ (fun H locs hG => ?_)
  refine W.eq (g2 := F0 m 6 ls [.int 1]) rfl ?_
  refine lv_if_ne (tgt := 24) hx hb dX2_sharePage_6 rfl (fun _ => ?_) (fun hh => absurd hh (by decide))
  refine lv_aload_n hx hb dX2_sharePage_24 rfl (lv_at hl 0 rfl) ?_
  refine lv_aload_n hx hb dX2_sharePage_25 rfl (lv_at hl 2 rfl) ?_
  refine lv_iload_n hx hb dX2_sharePage_26 rfl (lv_at hl 3 rfl) ?_
  refine lv_aload_n hx hb dX2_sharePage_27 rfl (lv_at hl 1 rfl) ?_
  refine g_getN (k := 2) (v := .ref (ad (6 + 3 * j))) (C := RX0) (ref := RX0) (fs := [.int (bI (run j)), .long (en (mp j)), .ref (ad (6 + 3 * j)), .ref (ad (7 + 3 * j))]) hx hb hown hts hN hG gX0 rfl (fp_5 (hj)) (by decide) t_25 rfl rfl dX2_sharePage_28 ?_
  refine lv_iload_n hx hb dX2_sharePage_31 rfl (lv_at hl 3 rfl) ?_
  refine g_iald (i := k) (t0 := 0) hx hb hG (fp_6 (hj)) rfl (hk) (by decide) dX2_sharePage_32 ?_
  refine lv_aload_n hx hb dX2_sharePage_33 rfl (lv_at hl 1 rfl) ?_
  refine g_getN (k := 3) (v := .ref (ad (7 + 3 * j))) (C := RX0) (ref := RX0) (fs := [.int (bI (run j)), .long (en (mp j)), .ref (ad (6 + 3 * j)), .ref (ad (7 + 3 * j))]) hx hb hown hts hN hG gX0 rfl (fp_5 (hj)) (by decide) t_27 rfl rfl dX2_sharePage_34 ?_
  refine lv_iload_n hx hb dX2_sharePage_37 rfl (lv_at hl 3 rfl) ?_
  refine g_iald (i := k) (t0 := 0) hx hb hG (fp_7 (hj)) rfl (hk) (by decide) dX2_sharePage_38 ?_
  refine g_callV (As := [.ref (ad (5 + 3 * n)), .int (nI k), .int (nI (fr j k)), .int (kd j k)]) (rest := []) (fs := [.ref (ad 1), .ref (ad 2), .int af, .int cf]) (fm_startMapping hn hk hf) hx hb hml hown hts hN hG t_117 t_119 s_9 t_1 t_120 nm_X2_startMapping ⟨by decide, by decide⟩ fp_0 rfl hl.1 (Nat.le_of_ble_eq_true rfl) dX2_sharePage_39 ⟨Nat.zero_le _, Nat.zero_le _⟩ (fun H locs hG => ?_)
  refine W.eq (g2 := F0 m 42 ls []) rfl ?_
  exact g_vret hx hb hr hlk hG dX2_sharePage_42
set_option maxHeartbeats 4000000 in
set_option maxRecDepth 100000 in
theorem fm_share_m {j n k : Nat} (hj : j < 5) (hn : n < 5) (hk : k < 64) (hf : fr j k < 24) (h : kd j k &&& 2 = 0) (h4 : ¬ kd j k &&& 4 = 0) : gM l yX2_sharePage cX2_sharePage 4 none 2 47 D cls (fpT cI cQ cZ) A (fpW ad cI cQ run mp fr kd wd ct af cf) [.ref (ad 0), .ref (ad (5 + 3 * j)), .ref (ad (5 + 3 * n)), .int (nI k)] none (fpW ad cI cQ run (up1 mp n (up1 (mp n) k true)) (up1 fr n (up1 (fr n) k (fr j k))) (up1 kd n (upd (kd n) k (kd j k))) wd (upd ct (fr j k) (ct (fr j k) + 1)) af cf) := by
  refine gM_of (by decide) (Nat.le_of_ble_eq_true rfl) ?_
  intro p e s m args below meth c ls hx hb hml hown hts hN hr hlk hl hG
  have hown : s.vm.findClass RX2 = some m.cls := hown
  have hl : lv_has ls 4 [(0, .ref (ad 0)), (1, .ref (ad (5 + 3 * j))), (2, .ref (ad (5 + 3 * n))), (3, .int (nI k))] := hl
  refine lv_aload_n hx hb dX2_sharePage_0 rfl (lv_at hl 1 rfl) ?_
  refine lv_iconst (v := 2) hx hb dX2_sharePage_1 (by decide) ?_
  refine lv_iload_n hx hb dX2_sharePage_2 rfl (lv_at hl 3 rfl) ?_
  refine g_callVN (As := [.int 2, .int (nI k)]) (rest := []) (fs := [.int (bI (run j)), .long (en (mp j)), .ref (ad (6 + 3 * j)), .ref (ad (7 + 3 * j))]) (fm_is_f hj hk h) hx hb hml hown hts hN hG t_109 t_111 s_7 t_2 t_112 nm_X0_is ⟨by decide, by decide⟩ (fp_5 (hj)) rfl hl.1 (Nat.le_of_ble_eq_true rfl) dX2_sharePage_3 ⟨Nat.zero_le _, Nat.zero_le _⟩ (fun H locs hG => ?_)
  refine W.eq (g2 := F0 m 6 ls [.int 0]) rfl ?_
  refine lv_if_ne (tgt := 24) hx hb dX2_sharePage_6 rfl (fun hh => absurd (rfl) hh) (fun _ => ?_)
  refine lv_aload_n hx hb dX2_sharePage_9 rfl (lv_at hl 1 rfl) ?_
  refine lv_iconst (v := 4) hx hb dX2_sharePage_10 (by decide) ?_
  refine lv_iload_n hx hb dX2_sharePage_11 rfl (lv_at hl 3 rfl) ?_
  refine g_callVN (As := [.int 4, .int (nI k)]) (rest := []) (fs := [.int (bI (run j)), .long (en (mp j)), .ref (ad (6 + 3 * j)), .ref (ad (7 + 3 * j))]) (fm_is_t hj hk h4) hx hb hml hown hts hN hG t_109 t_111 s_7 t_2 t_112 nm_X0_is ⟨by decide, by decide⟩ (fp_5 (hj)) rfl hl.1 (Nat.le_of_ble_eq_true rfl) dX2_sharePage_12 ⟨Nat.zero_le _, Nat.zero_le _⟩ (fun H locs hG => ?_)
  refine W.eq (g2 := F0 m 15 ls [.int 1]) rfl ?_
  refine lv_if_ne (tgt := 24) hx hb dX2_sharePage_15 rfl (fun _ => ?_) (fun hh => absurd hh (by decide))
  refine lv_aload_n hx hb dX2_sharePage_24 rfl (lv_at hl 0 rfl) ?_
  refine lv_aload_n hx hb dX2_sharePage_25 rfl (lv_at hl 2 rfl) ?_
  refine lv_iload_n hx hb dX2_sharePage_26 rfl (lv_at hl 3 rfl) ?_
  refine lv_aload_n hx hb dX2_sharePage_27 rfl (lv_at hl 1 rfl) ?_
  refine g_getN (k := 2) (v := .ref (ad (6 + 3 * j))) (C := RX0) (ref := RX0) (fs := [.int (bI (run j)), .long (en (mp j)), .ref (ad (6 + 3 * j)), .ref (ad (7 + 3 * j))]) hx hb hown hts hN hG gX0 rfl (fp_5 (hj)) (by decide) t_25 rfl rfl dX2_sharePage_28 ?_
  refine lv_iload_n hx hb dX2_sharePage_31 rfl (lv_at hl 3 rfl) ?_
  refine g_iald (i := k) (t0 := 0) hx hb hG (fp_6 (hj)) rfl (hk) (by decide) dX2_sharePage_32 ?_
  refine lv_aload_n hx hb dX2_sharePage_33 rfl (lv_at hl 1 rfl) ?_
  refine g_getN (k := 3) (v := .ref (ad (7 + 3 * j))) (C := RX0) (ref := RX0) (fs := [.int (bI (run j)), .long (en (mp j)), .ref (ad (6 + 3 * j)), .ref (ad (7 + 3 * j))]) hx hb hown hts hN hG gX0 rfl (fp_5 (hj)) (by decide) t_27 rfl rfl dX2_sharePage_34 ?_
  refine lv_iload_n hx hb dX2_sharePage_37 rfl (lv_at hl 3 rfl) ?_
  refine g_iald (i := k) (t0 := 0) hx hb hG (fp_7 (hj)) rfl (hk) (by decide) dX2_sharePage_38 ?_
  refine g_callV (As := [.ref (ad (5 + 3 * n)), .int (nI k), .int (nI (fr j k)), .int (kd j k)]) (rest := []) (fs := [.ref (ad 1), .ref (ad 2), .int af, .int cf]) (fm_startMapping hn hk hf) hx hb hml hown hts hN hG t_117 t_119 s_9 t_1 t_120 nm_X2_startMapping ⟨by decide, by decide⟩ fp_0 rfl hl.1 (Nat.le_of_ble_eq_true rfl) dX2_sharePage_39 ⟨Nat.zero_le _, Nat.zero_le _⟩ (fun H locs hG => ?_)
  refine W.eq (g2 := F0 m 42 ls []) rfl ?_
  exact g_vret hx hb hr hlk hG dX2_sharePage_42
set_option maxHeartbeats 4000000 in
set_option maxRecDepth 100000 in
theorem fm_share_p {j n k : Nat} (hj : j < 5) (hn : n < 5) (hk : k < 64) (hf : fr j k < 24) (h : kd j k &&& 2 = 0) (h4 : kd j k &&& 4 = 0) : gM l yX2_sharePage cX2_sharePage 4 none 2 47 D cls (fpT cI cQ cZ) A (fpW ad cI cQ run mp fr kd wd ct af cf) [.ref (ad 0), .ref (ad (5 + 3 * j)), .ref (ad (5 + 3 * n)), .int (nI k)] none (fpW ad cI cQ run (up1 mp n (up1 (mp n) k true)) (up1 fr n (up1 (fr n) k (fr j k))) (up1 (up1 kd j (upd (kd j) k (kd j k ^^^ 4))) n (upd ((up1 kd j (upd (kd j) k (kd j k ^^^ 4))) n) k ((up1 kd j (upd (kd j) k (kd j k ^^^ 4))) j k))) wd (upd ct (fr j k) (ct (fr j k) + 1)) af cf) := by
  refine gM_of (by decide) (Nat.le_of_ble_eq_true rfl) ?_
  intro p e s m args below meth c ls hx hb hml hown hts hN hr hlk hl hG
  have hown : s.vm.findClass RX2 = some m.cls := hown
  have hl : lv_has ls 4 [(0, .ref (ad 0)), (1, .ref (ad (5 + 3 * j))), (2, .ref (ad (5 + 3 * n))), (3, .int (nI k))] := hl
  refine lv_aload_n hx hb dX2_sharePage_0 rfl (lv_at hl 1 rfl) ?_
  refine lv_iconst (v := 2) hx hb dX2_sharePage_1 (by decide) ?_
  refine lv_iload_n hx hb dX2_sharePage_2 rfl (lv_at hl 3 rfl) ?_
  refine g_callVN (As := [.int 2, .int (nI k)]) (rest := []) (fs := [.int (bI (run j)), .long (en (mp j)), .ref (ad (6 + 3 * j)), .ref (ad (7 + 3 * j))]) (fm_is_f hj hk h) hx hb hml hown hts hN hG t_109 t_111 s_7 t_2 t_112 nm_X0_is ⟨by decide, by decide⟩ (fp_5 (hj)) rfl hl.1 (Nat.le_of_ble_eq_true rfl) dX2_sharePage_3 ⟨Nat.zero_le _, Nat.zero_le _⟩ (fun H locs hG => ?_)
  refine W.eq (g2 := F0 m 6 ls [.int 0]) rfl ?_
  refine lv_if_ne (tgt := 24) hx hb dX2_sharePage_6 rfl (fun hh => absurd (rfl) hh) (fun _ => ?_)
  refine lv_aload_n hx hb dX2_sharePage_9 rfl (lv_at hl 1 rfl) ?_
  refine lv_iconst (v := 4) hx hb dX2_sharePage_10 (by decide) ?_
  refine lv_iload_n hx hb dX2_sharePage_11 rfl (lv_at hl 3 rfl) ?_
  refine g_callVN (As := [.int 4, .int (nI k)]) (rest := []) (fs := [.int (bI (run j)), .long (en (mp j)), .ref (ad (6 + 3 * j)), .ref (ad (7 + 3 * j))]) (fm_is_f hj hk h4) hx hb hml hown hts hN hG t_109 t_111 s_7 t_2 t_112 nm_X0_is ⟨by decide, by decide⟩ (fp_5 (hj)) rfl hl.1 (Nat.le_of_ble_eq_true rfl) dX2_sharePage_12 ⟨Nat.zero_le _, Nat.zero_le _⟩ (fun H locs hG => ?_)
  refine W.eq (g2 := F0 m 15 ls [.int 0]) rfl ?_
  refine lv_if_ne (tgt := 24) hx hb dX2_sharePage_15 rfl (fun hh => absurd (rfl) hh) (fun _ => ?_)
  refine lv_aload_n hx hb dX2_sharePage_18 rfl (lv_at hl 1 rfl) ?_
  refine lv_iconst (v := 4) hx hb dX2_sharePage_19 (by decide) ?_
  refine lv_iload_n hx hb dX2_sharePage_20 rfl (lv_at hl 3 rfl) ?_
  refine g_callVN (As := [.int 4, .int (nI k)]) (rest := []) (fs := [.int (bI (run j)), .long (en (mp j)), .ref (ad (6 + 3 * j)), .ref (ad (7 + 3 * j))]) (fm_turn hj hk) hx hb hml hown hts hN hG t_113 t_115 s_8 t_2 t_116 nm_X0_turn ⟨by decide, by decide⟩ (fp_5 (hj)) rfl hl.1 (Nat.le_of_ble_eq_true rfl) dX2_sharePage_21 ⟨Nat.zero_le _, Nat.zero_le _⟩ (fun H locs hG => ?_)
  refine W.eq (g2 := F0 m 24 ls []) rfl ?_
  refine lv_aload_n hx hb dX2_sharePage_24 rfl (lv_at hl 0 rfl) ?_
  refine lv_aload_n hx hb dX2_sharePage_25 rfl (lv_at hl 2 rfl) ?_
  refine lv_iload_n hx hb dX2_sharePage_26 rfl (lv_at hl 3 rfl) ?_
  refine lv_aload_n hx hb dX2_sharePage_27 rfl (lv_at hl 1 rfl) ?_
  refine g_getN (k := 2) (v := .ref (ad (6 + 3 * j))) (C := RX0) (ref := RX0) (fs := [.int (bI (run j)), .long (en (mp j)), .ref (ad (6 + 3 * j)), .ref (ad (7 + 3 * j))]) hx hb hown hts hN hG gX0 rfl (fp_5 (hj)) (by decide) t_25 rfl rfl dX2_sharePage_28 ?_
  refine lv_iload_n hx hb dX2_sharePage_31 rfl (lv_at hl 3 rfl) ?_
  refine g_iald (i := k) (t0 := 0) hx hb hG (fp_6 (hj)) rfl (hk) (by decide) dX2_sharePage_32 ?_
  refine lv_aload_n hx hb dX2_sharePage_33 rfl (lv_at hl 1 rfl) ?_
  refine g_getN (k := 3) (v := .ref (ad (7 + 3 * j))) (C := RX0) (ref := RX0) (fs := [.int (bI (run j)), .long (en (mp j)), .ref (ad (6 + 3 * j)), .ref (ad (7 + 3 * j))]) hx hb hown hts hN hG gX0 rfl (fp_5 (hj)) (by decide) t_27 rfl rfl dX2_sharePage_34 ?_
  refine lv_iload_n hx hb dX2_sharePage_37 rfl (lv_at hl 3 rfl) ?_
  refine g_iald (i := k) (t0 := 0) hx hb hG (fp_7 (hj)) rfl (hk) (by decide) dX2_sharePage_38 ?_
  refine g_callV (As := [.ref (ad (5 + 3 * n)), .int (nI k), .int (nI (fr j k)), .int ((up1 kd j (upd (kd j) k (kd j k ^^^ 4))) j k)]) (rest := []) (fs := [.ref (ad 1), .ref (ad 2), .int af, .int cf]) (fm_startMapping hn hk hf) hx hb hml hown hts hN hG t_117 t_119 s_9 t_1 t_120 nm_X2_startMapping ⟨by decide, by decide⟩ fp_0 rfl hl.1 (Nat.le_of_ble_eq_true rfl) dX2_sharePage_39 ⟨Nat.zero_le _, Nat.zero_le _⟩ (fun H locs hG => ?_)
  refine W.eq (g2 := F0 m 42 ls []) rfl ?_
  exact g_vret hx hb hr hlk hG dX2_sharePage_42
set_option maxHeartbeats 4000000 in
set_option maxRecDepth 100000 in
theorem fm_sharePage {j n k : Nat} (hj : j < 5) (hn : n < 5) (hk : k < 64) (hf : fr j k < 24)  : gM l yX2_sharePage cX2_sharePage 4 none 2 47 D cls (fpT cI cQ cZ) A (fpW ad cI cQ run mp fr kd wd ct af cf) [.ref (ad 0), .ref (ad (5 + 3 * j)), .ref (ad (5 + 3 * n)), .int (nI k)] none (fpW ad cI cQ run (up1 mp n (up1 (mp n) k true)) (up1 fr n (up1 (fr n) k (fr j k))) (up1 (shK kd j k) n (upd ((shK kd j k) n) k ((shK kd j k) j k))) wd (upd ct (fr j k) (ct (fr j k) + 1)) af cf) := by
  by_cases h : kd j k &&& 2 = 0
  · by_cases h4 : kd j k &&& 4 = 0
    · rw [show shK kd j k = up1 kd j (upd (kd j) k (kd j k ^^^ 4)) from if_pos ⟨h, h4⟩]; exact fm_share_p hj hn hk hf h h4
    · rw [show shK kd j k = kd from if_neg (fun q => h4 q.2)]; exact fm_share_m hj hn hk hf h h4
  · rw [show shK kd j k = kd from if_neg (fun q => h q.1)]; exact fm_share_c hj hn hk hf h
set_option maxHeartbeats 4000000 in
set_option maxRecDepth 100000 in
theorem fm_rF_room {j k : Nat} (hj : j < 5) (hk : k < 64) (hf : fr j k < 24) (h : ¬ ct (fr j k) ≤ 1) (hr0 : ¬ 1 ≤ frF run mp ct) : gM l yX2_resolveFault cX2_resolveFault 7 (some .int) 4 90 D cls (fpT cI cQ cZ) A (fpW ad cI cQ run mp fr kd wd ct af cf) [.ref (ad 0), .ref (ad (5 + 3 * j)), .int (nI k)] (some (.int (-8))) (fpW ad cI cQ run mp fr kd wd ct af cf) := by
  refine gM_of (by decide) (Nat.le_of_ble_eq_true rfl) ?_
  intro p e s m args below meth c ls hx hb hml hown hts hN hr hlk hl hG
  have hown : s.vm.findClass RX2 = some m.cls := hown
  have hl : lv_has ls 7 [(0, .ref (ad 0)), (1, .ref (ad (5 + 3 * j))), (2, .int (nI k))] := hl
  refine lv_aload_n hx hb dX2_resolveFault_0 rfl (lv_at hl 1 rfl) ?_
  refine g_getN (k := 2) (v := .ref (ad (6 + 3 * j))) (C := RX0) (ref := RX0) (fs := [.int (bI (run j)), .long (en (mp j)), .ref (ad (6 + 3 * j)), .ref (ad (7 + 3 * j))]) hx hb hown hts hN hG gX0 rfl (fp_5 (hj)) (by decide) t_25 rfl rfl dX2_resolveFault_1 ?_
  refine lv_iload_n hx hb dX2_resolveFault_4 rfl (lv_at hl 2 rfl) ?_
  refine g_iald (i := k) (t0 := 0) hx hb hG (fp_6 (hj)) rfl (hk) (by decide) dX2_resolveFault_5 ?_
  refine lv_istore_n (lv' := [(3, .int (nI (fr j k))), (0, .ref (ad 0)), (1, .ref (ad (5 + 3 * j))), (2, .int (nI k))]) hx hb dX2_resolveFault_6 rfl hl (by decide) rfl (fun ls hl => ?_)
  refine lv_aload_n hx hb dX2_resolveFault_7 rfl (lv_at hl 1 rfl) ?_
  refine g_get (k := 1) (v := .ref (ad 2)) (C := RX2) (ref := RX2) (fs := [.ref (ad 1), .ref (ad 2), .int af, .int cf]) hx hb hown hts hG gX2 rfl fp_0 (by decide) t_54 rfl rfl dX2_resolveFault_8 ?_
  refine g_getN (k := 1) (v := .ref (ad 4)) (C := RX1) (ref := RX1) (fs := [.ref (ad 3), .ref (ad 4)]) hx hb hown hts hN hG gX1 rfl fp_2 (by decide) t_47 rfl rfl dX2_resolveFault_11 ?_
  refine lv_iload_n hx hb dX2_resolveFault_14 rfl (lv_at hl 0 rfl) ?_
  refine g_iald (i := (fr j k)) (t0 := 0) hx hb hG fp_4 rfl (hf) (by decide) dX2_resolveFault_15 ?_
  refine lv_iconst (v := 1) hx hb dX2_resolveFault_16 (by decide) ?_
  refine lv_icmp_le (tgt := 24) hx hb dX2_resolveFault_17 rfl (fun hh => absurd hh (h)) (fun _ => ?_)
  refine lv_iconst (v := 1) hx hb dX2_resolveFault_20 (by decide) ?_
  refine lv_goto (tgt := 25) hx hb dX2_resolveFault_21 rfl ?_
  refine lv_istore (lv' := [(4, .int 1), (3, .int (nI (fr j k))), (0, .ref (ad 0)), (1, .ref (ad (5 + 3 * j))), (2, .int (nI k))]) hx hb dX2_resolveFault_25 hl (by decide) rfl (fun ls hl => ?_)
  refine lv_iload hx hb dX2_resolveFault_27 (lv_at hl 0 rfl) ?_
  refine lv_if_eq (tgt := 43) hx hb dX2_resolveFault_29 rfl (fun hh => absurd hh (by decide)) (fun _ => ?_)
  refine lv_aload_n hx hb dX2_resolveFault_32 rfl (lv_at hl 2 rfl) ?_
  refine g_callV (As := []) (rest := []) (fs := [.ref (ad 1), .ref (ad 2), .int af, .int cf]) (fm_freeFrames) hx hb hml hown hts hN hG t_74 t_76 s_1 t_1 t_77 nm_X2_freeFrames ⟨by decide, by decide⟩ fp_0 rfl hl.1 (Nat.le_of_ble_eq_true rfl) dX2_resolveFault_33 ⟨Nat.zero_le _, Nat.zero_le _⟩ (fun H locs hG => ?_)
  refine W.eq (g2 := F0 m 36 ls [.int (frF run mp ct)]) rfl ?_
  refine lv_iconst (v := 1) hx hb dX2_resolveFault_36 (by decide) ?_
  refine lv_icmp_ge (tgt := 43) hx hb dX2_resolveFault_37 rfl (fun hh => absurd hh (hr0)) (fun _ => ?_)
  refine lv_bipush (v := (-8)) hx hb dX2_resolveFault_40 (by decide) ?_
  exact g_iret hx hb hr hlk hG dX2_resolveFault_42
set_option maxHeartbeats 4000000 in
set_option maxRecDepth 100000 in
theorem fm_rF_one {j k : Nat} (hj : j < 5) (hk : k < 64) (hf : fr j k < 24) (h : ct (fr j k) ≤ 1) : gM l yX2_resolveFault cX2_resolveFault 7 (some .int) 4 90 D cls (fpT cI cQ cZ) A (fpW ad cI cQ run mp fr kd wd ct af cf) [.ref (ad 0), .ref (ad (5 + 3 * j)), .int (nI k)] (some (.int 1)) (fpW ad cI cQ run mp fr (up1 kd j (upd (kd j) k (kd j k ^^^ 4))) wd ct (af + 1) cf) := by
  refine gM_of (by decide) (Nat.le_of_ble_eq_true rfl) ?_
  intro p e s m args below meth c ls hx hb hml hown hts hN hr hlk hl hG
  have hown : s.vm.findClass RX2 = some m.cls := hown
  have hl : lv_has ls 7 [(0, .ref (ad 0)), (1, .ref (ad (5 + 3 * j))), (2, .int (nI k))] := hl
  refine lv_aload_n hx hb dX2_resolveFault_0 rfl (lv_at hl 1 rfl) ?_
  refine g_getN (k := 2) (v := .ref (ad (6 + 3 * j))) (C := RX0) (ref := RX0) (fs := [.int (bI (run j)), .long (en (mp j)), .ref (ad (6 + 3 * j)), .ref (ad (7 + 3 * j))]) hx hb hown hts hN hG gX0 rfl (fp_5 (hj)) (by decide) t_25 rfl rfl dX2_resolveFault_1 ?_
  refine lv_iload_n hx hb dX2_resolveFault_4 rfl (lv_at hl 2 rfl) ?_
  refine g_iald (i := k) (t0 := 0) hx hb hG (fp_6 (hj)) rfl (hk) (by decide) dX2_resolveFault_5 ?_
  refine lv_istore_n (lv' := [(3, .int (nI (fr j k))), (0, .ref (ad 0)), (1, .ref (ad (5 + 3 * j))), (2, .int (nI k))]) hx hb dX2_resolveFault_6 rfl hl (by decide) rfl (fun ls hl => ?_)
  refine lv_aload_n hx hb dX2_resolveFault_7 rfl (lv_at hl 1 rfl) ?_
  refine g_get (k := 1) (v := .ref (ad 2)) (C := RX2) (ref := RX2) (fs := [.ref (ad 1), .ref (ad 2), .int af, .int cf]) hx hb hown hts hG gX2 rfl fp_0 (by decide) t_54 rfl rfl dX2_resolveFault_8 ?_
  refine g_getN (k := 1) (v := .ref (ad 4)) (C := RX1) (ref := RX1) (fs := [.ref (ad 3), .ref (ad 4)]) hx hb hown hts hN hG gX1 rfl fp_2 (by decide) t_47 rfl rfl dX2_resolveFault_11 ?_
  refine lv_iload_n hx hb dX2_resolveFault_14 rfl (lv_at hl 0 rfl) ?_
  refine g_iald (i := (fr j k)) (t0 := 0) hx hb hG fp_4 rfl (hf) (by decide) dX2_resolveFault_15 ?_
  refine lv_iconst (v := 1) hx hb dX2_resolveFault_16 (by decide) ?_
  refine lv_icmp_le (tgt := 24) hx hb dX2_resolveFault_17 rfl (fun _ => ?_) (fun hh => absurd (h) hh)
  refine lv_iconst (v := 0) hx hb dX2_resolveFault_24 (by decide) ?_
  refine lv_istore (lv' := [(4, .int 0), (3, .int (nI (fr j k))), (0, .ref (ad 0)), (1, .ref (ad (5 + 3 * j))), (2, .int (nI k))]) hx hb dX2_resolveFault_25 hl (by decide) rfl (fun ls hl => ?_)
  refine lv_iload hx hb dX2_resolveFault_27 (lv_at hl 0 rfl) ?_
  refine lv_if_eq (tgt := 43) hx hb dX2_resolveFault_29 rfl (fun _ => ?_) (fun hh => absurd (rfl) hh)
  refine lv_aload_n hx hb dX2_resolveFault_43 rfl (lv_at hl 2 rfl) ?_
  refine lv_dup hx hb dX2_resolveFault_44 rfl ?_
  refine g_get (k := 2) (v := .int af) (C := RX2) (ref := RX2) (fs := [.ref (ad 1), .ref (ad 2), .int af, .int cf]) hx hb hown hts hG gX2 rfl fp_0 (by decide) t_55 rfl rfl dX2_resolveFault_45 ?_
  refine lv_iconst (v := 1) hx hb dX2_resolveFault_48 (by decide) ?_
  refine lv_iadd hx hb dX2_resolveFault_49 ?_
  refine g_put (k := 2) (v := .int (af + 1)) (C := RX2) (ref := RX2) (ty := .int) (fs := [.ref (ad 1), .ref (ad 2), .int af, .int cf]) (ws' := fpW ad cI cQ run mp fr kd wd ct (af + 1) cf) tyX2 tyX2_ok nmX2 hx hb hown hts hG gX2 rfl fp_0 (by decide) t_55 rfl rfl (by decide +kernel) rfl rfl (Nat.le_of_ble_eq_true rfl) (fp_s0a _) dX2_resolveFault_50 (fun H locs hG => ?_)
  refine lv_aload_n hx hb dX2_resolveFault_53 rfl (lv_at hl 3 rfl) ?_
  refine lv_iconst (v := 4) hx hb dX2_resolveFault_54 (by decide) ?_
  refine lv_iload_n hx hb dX2_resolveFault_55 rfl (lv_at hl 4 rfl) ?_
  refine g_callVN (As := [.int 4, .int (nI k)]) (rest := []) (fs := [.int (bI (run j)), .long (en (mp j)), .ref (ad (6 + 3 * j)), .ref (ad (7 + 3 * j))]) (fm_turn hj hk) hx hb hml hown hts hN hG t_113 t_115 s_8 t_2 t_116 nm_X0_turn ⟨by decide, by decide⟩ (fp_5 (hj)) rfl hl.1 (Nat.le_of_ble_eq_true rfl) dX2_resolveFault_56 ⟨Nat.zero_le _, Nat.zero_le _⟩ (fun H locs hG => ?_)
  refine W.eq (g2 := F0 m 59 ls []) rfl ?_
  refine lv_iload hx hb dX2_resolveFault_59 (lv_at hl 0 rfl) ?_
  refine lv_if_ne (tgt := 66) hx hb dX2_resolveFault_61 rfl (fun hh => absurd (rfl) hh) (fun _ => ?_)
  refine lv_iconst (v := 1) hx hb dX2_resolveFault_64 (by decide) ?_
  exact g_iret hx hb hr hlk hG dX2_resolveFault_65
set_option maxHeartbeats 4000000 in
set_option maxRecDepth 100000 in
theorem fm_rF_two {j k : Nat} (hj : j < 5) (hk : k < 64) (hf : fr j k < 24) (h : ¬ ct (fr j k) ≤ 1) (hr0 : 1 ≤ frF run mp ct) : gM l yX2_resolveFault cX2_resolveFault 7 (some .int) 4 90 D cls (fpT cI cQ cZ) A (fpW ad cI cQ run mp fr kd wd ct af cf) [.ref (ad 0), .ref (ad (5 + 3 * j)), .int (nI k)] (some (.int 2)) (fpW ad cI cQ run (up1 (up1 mp j (up1 (mp j) k false)) j (up1 ((up1 mp j (up1 (mp j) k false)) j) k true)) (up1 fr j (up1 (fr j) k (unF ct 24))) (up1 (up1 kd j (upd (kd j) k (kd j k ^^^ 4))) j (upd ((up1 kd j (upd (kd j) k (kd j k ^^^ 4))) j) k ((up1 kd j (upd (kd j) k (kd j k ^^^ 4))) j k))) (cpW wd (fr j k) (unF ct 24)) (upd (upd ct (fr j k) (ct (fr j k) - 1)) (unF ct 24) ((upd ct (fr j k) (ct (fr j k) - 1)) (unF ct 24) + 1)) (af + 1) (cf + 1)) := by
  refine gM_of (by decide) (Nat.le_of_ble_eq_true rfl) ?_
  intro p e s m args below meth c ls hx hb hml hown hts hN hr hlk hl hG
  have hown : s.vm.findClass RX2 = some m.cls := hown
  have hl : lv_has ls 7 [(0, .ref (ad 0)), (1, .ref (ad (5 + 3 * j))), (2, .int (nI k))] := hl
  refine lv_aload_n hx hb dX2_resolveFault_0 rfl (lv_at hl 1 rfl) ?_
  refine g_getN (k := 2) (v := .ref (ad (6 + 3 * j))) (C := RX0) (ref := RX0) (fs := [.int (bI (run j)), .long (en (mp j)), .ref (ad (6 + 3 * j)), .ref (ad (7 + 3 * j))]) hx hb hown hts hN hG gX0 rfl (fp_5 (hj)) (by decide) t_25 rfl rfl dX2_resolveFault_1 ?_
  refine lv_iload_n hx hb dX2_resolveFault_4 rfl (lv_at hl 2 rfl) ?_
  refine g_iald (i := k) (t0 := 0) hx hb hG (fp_6 (hj)) rfl (hk) (by decide) dX2_resolveFault_5 ?_
  refine lv_istore_n (lv' := [(3, .int (nI (fr j k))), (0, .ref (ad 0)), (1, .ref (ad (5 + 3 * j))), (2, .int (nI k))]) hx hb dX2_resolveFault_6 rfl hl (by decide) rfl (fun ls hl => ?_)
  refine lv_aload_n hx hb dX2_resolveFault_7 rfl (lv_at hl 1 rfl) ?_
  refine g_get (k := 1) (v := .ref (ad 2)) (C := RX2) (ref := RX2) (fs := [.ref (ad 1), .ref (ad 2), .int af, .int cf]) hx hb hown hts hG gX2 rfl fp_0 (by decide) t_54 rfl rfl dX2_resolveFault_8 ?_
  refine g_getN (k := 1) (v := .ref (ad 4)) (C := RX1) (ref := RX1) (fs := [.ref (ad 3), .ref (ad 4)]) hx hb hown hts hN hG gX1 rfl fp_2 (by decide) t_47 rfl rfl dX2_resolveFault_11 ?_
  refine lv_iload_n hx hb dX2_resolveFault_14 rfl (lv_at hl 0 rfl) ?_
  refine g_iald (i := (fr j k)) (t0 := 0) hx hb hG fp_4 rfl (hf) (by decide) dX2_resolveFault_15 ?_
  refine lv_iconst (v := 1) hx hb dX2_resolveFault_16 (by decide) ?_
  refine lv_icmp_le (tgt := 24) hx hb dX2_resolveFault_17 rfl (fun hh => absurd hh (h)) (fun _ => ?_)
  refine lv_iconst (v := 1) hx hb dX2_resolveFault_20 (by decide) ?_
  refine lv_goto (tgt := 25) hx hb dX2_resolveFault_21 rfl ?_
  refine lv_istore (lv' := [(4, .int 1), (3, .int (nI (fr j k))), (0, .ref (ad 0)), (1, .ref (ad (5 + 3 * j))), (2, .int (nI k))]) hx hb dX2_resolveFault_25 hl (by decide) rfl (fun ls hl => ?_)
  refine lv_iload hx hb dX2_resolveFault_27 (lv_at hl 0 rfl) ?_
  refine lv_if_eq (tgt := 43) hx hb dX2_resolveFault_29 rfl (fun hh => absurd hh (by decide)) (fun _ => ?_)
  refine lv_aload_n hx hb dX2_resolveFault_32 rfl (lv_at hl 2 rfl) ?_
  refine g_callV (As := []) (rest := []) (fs := [.ref (ad 1), .ref (ad 2), .int af, .int cf]) (fm_freeFrames) hx hb hml hown hts hN hG t_74 t_76 s_1 t_1 t_77 nm_X2_freeFrames ⟨by decide, by decide⟩ fp_0 rfl hl.1 (Nat.le_of_ble_eq_true rfl) dX2_resolveFault_33 ⟨Nat.zero_le _, Nat.zero_le _⟩ (fun H locs hG => ?_)
  refine W.eq (g2 := F0 m 36 ls [.int (frF run mp ct)]) rfl ?_
  refine lv_iconst (v := 1) hx hb dX2_resolveFault_36 (by decide) ?_
  refine lv_icmp_ge (tgt := 43) hx hb dX2_resolveFault_37 rfl (fun _ => ?_) (fun hh => absurd (hr0) hh)
  refine lv_aload_n hx hb dX2_resolveFault_43 rfl (lv_at hl 2 rfl) ?_
  refine lv_dup hx hb dX2_resolveFault_44 rfl ?_
  refine g_get (k := 2) (v := .int af) (C := RX2) (ref := RX2) (fs := [.ref (ad 1), .ref (ad 2), .int af, .int cf]) hx hb hown hts hG gX2 rfl fp_0 (by decide) t_55 rfl rfl dX2_resolveFault_45 ?_
  refine lv_iconst (v := 1) hx hb dX2_resolveFault_48 (by decide) ?_
  refine lv_iadd hx hb dX2_resolveFault_49 ?_
  refine g_put (k := 2) (v := .int (af + 1)) (C := RX2) (ref := RX2) (ty := .int) (fs := [.ref (ad 1), .ref (ad 2), .int af, .int cf]) (ws' := fpW ad cI cQ run mp fr kd wd ct (af + 1) cf) tyX2 tyX2_ok nmX2 hx hb hown hts hG gX2 rfl fp_0 (by decide) t_55 rfl rfl (by decide +kernel) rfl rfl (Nat.le_of_ble_eq_true rfl) (fp_s0a _) dX2_resolveFault_50 (fun H locs hG => ?_)
  refine lv_aload_n hx hb dX2_resolveFault_53 rfl (lv_at hl 3 rfl) ?_
  refine lv_iconst (v := 4) hx hb dX2_resolveFault_54 (by decide) ?_
  refine lv_iload_n hx hb dX2_resolveFault_55 rfl (lv_at hl 4 rfl) ?_
  refine g_callVN (As := [.int 4, .int (nI k)]) (rest := []) (fs := [.int (bI (run j)), .long (en (mp j)), .ref (ad (6 + 3 * j)), .ref (ad (7 + 3 * j))]) (fm_turn hj hk) hx hb hml hown hts hN hG t_113 t_115 s_8 t_2 t_116 nm_X0_turn ⟨by decide, by decide⟩ (fp_5 (hj)) rfl hl.1 (Nat.le_of_ble_eq_true rfl) dX2_resolveFault_56 ⟨Nat.zero_le _, Nat.zero_le _⟩ (fun H locs hG => ?_)
  refine W.eq (g2 := F0 m 59 ls []) rfl ?_
  refine lv_iload hx hb dX2_resolveFault_59 (lv_at hl 0 rfl) ?_
  refine lv_if_ne (tgt := 66) hx hb dX2_resolveFault_61 rfl (fun _ => ?_) (fun hh => absurd hh (by decide))
  refine lv_aload_n hx hb dX2_resolveFault_66 rfl (lv_at hl 2 rfl) ?_
  refine lv_dup hx hb dX2_resolveFault_67 rfl ?_
  refine g_get (k := 3) (v := .int cf) (C := RX2) (ref := RX2) (fs := [.ref (ad 1), .ref (ad 2), .int (af + 1), .int cf]) hx hb hown hts hG gX2 rfl fp_0 (by decide) t_56 rfl rfl dX2_resolveFault_68 ?_
  refine lv_iconst (v := 1) hx hb dX2_resolveFault_71 (by decide) ?_
  refine lv_iadd hx hb dX2_resolveFault_72 ?_
  refine g_put (k := 3) (v := .int (cf + 1)) (C := RX2) (ref := RX2) (ty := .int) (fs := [.ref (ad 1), .ref (ad 2), .int (af + 1), .int cf]) (ws' := fpW ad cI cQ run mp fr (up1 kd j (upd (kd j) k (kd j k ^^^ 4))) wd ct (af + 1) (cf + 1)) tyX2 tyX2_ok nmX2 hx hb hown hts hG gX2 rfl fp_0 (by decide) t_56 rfl rfl (by decide +kernel) rfl rfl (Nat.le_of_ble_eq_true rfl) (fp_s0c _) dX2_resolveFault_73 (fun H locs hG => ?_)
  refine lv_aload_n hx hb dX2_resolveFault_76 rfl (lv_at hl 2 rfl) ?_
  refine g_get (k := 1) (v := .ref (ad 2)) (C := RX2) (ref := RX2) (fs := [.ref (ad 1), .ref (ad 2), .int (af + 1), .int (cf + 1)]) hx hb hown hts hG gX2 rfl fp_0 (by decide) t_54 rfl rfl dX2_resolveFault_77 ?_
  refine g_callVN (As := []) (rest := []) (fs := [.ref (ad 3), .ref (ad 4)]) (fm_unusedFrame) hx hb hml hown hts hN hG t_149 t_151 s_14 t_3 t_152 nm_X1_unusedFrame ⟨by decide, by decide⟩ fp_2 rfl hl.1 (Nat.le_of_ble_eq_true rfl) dX2_resolveFault_80 ⟨Nat.zero_le _, Nat.zero_le _⟩ (fun H locs hG => ?_)
  refine W.eq (g2 := F0 m 83 ls [.int (nI (unF ct 24))]) rfl ?_
  refine lv_istore (lv' := [(5, .int (nI (unF ct 24))), (4, .int 1), (3, .int (nI (fr j k))), (0, .ref (ad 0)), (1, .ref (ad (5 + 3 * j))), (2, .int (nI k))]) hx hb dX2_resolveFault_83 hl (by decide) rfl (fun ls hl => ?_)
  refine lv_aload_n hx hb dX2_resolveFault_85 rfl (lv_at hl 3 rfl) ?_
  refine g_get (k := 1) (v := .ref (ad 2)) (C := RX2) (ref := RX2) (fs := [.ref (ad 1), .ref (ad 2), .int (af + 1), .int (cf + 1)]) hx hb hown hts hG gX2 rfl fp_0 (by decide) t_54 rfl rfl dX2_resolveFault_86 ?_
  refine lv_iload_n hx hb dX2_resolveFault_89 rfl (lv_at hl 2 rfl) ?_
  refine lv_iload hx hb dX2_resolveFault_90 (lv_at hl 0 rfl) ?_
  refine g_callVN (As := [.int (nI (fr j k)), .int (nI (unF ct 24))]) (rest := []) (fs := [.ref (ad 3), .ref (ad 4)]) (fm_copy hf (unF_lt ct 24 (by decide))) hx hb hml hown hts hN hG t_185 t_187 s_19 t_3 t_188 nm_X1_copy ⟨by decide, by decide⟩ fp_2 rfl hl.1 (Nat.le_of_ble_eq_true rfl) dX2_resolveFault_92 ⟨Nat.zero_le _, Nat.zero_le _⟩ (fun H locs hG => ?_)
  refine W.eq (g2 := F0 m 95 ls []) rfl ?_
  refine lv_aload_n hx hb dX2_resolveFault_95 rfl (lv_at hl 4 rfl) ?_
  refine g_getN (k := 3) (v := .ref (ad (7 + 3 * j))) (C := RX0) (ref := RX0) (fs := [.int (bI (run j)), .long (en (mp j)), .ref (ad (6 + 3 * j)), .ref (ad (7 + 3 * j))]) hx hb hown hts hN hG gX0 rfl (fp_5 (hj)) (by decide) t_27 rfl rfl dX2_resolveFault_96 ?_
  refine lv_iload_n hx hb dX2_resolveFault_99 rfl (lv_at hl 5 rfl) ?_
  refine g_iald (i := k) (t0 := 0) hx hb hG (fp_7 (hj)) rfl (hk) (by decide) dX2_resolveFault_100 ?_
  refine lv_istore (lv' := [(6, .int ((up1 kd j (upd (kd j) k (kd j k ^^^ 4))) j k)), (5, .int (nI (unF ct 24))), (4, .int 1), (3, .int (nI (fr j k))), (0, .ref (ad 0)), (1, .ref (ad (5 + 3 * j))), (2, .int (nI k))]) hx hb dX2_resolveFault_101 hl (by decide) rfl (fun ls hl => ?_)
  refine lv_aload_n hx hb dX2_resolveFault_103 rfl (lv_at hl 4 rfl) ?_
  refine lv_aload_n hx hb dX2_resolveFault_104 rfl (lv_at hl 5 rfl) ?_
  refine lv_iload_n hx hb dX2_resolveFault_105 rfl (lv_at hl 6 rfl) ?_
  refine g_callV (As := [.ref (ad (5 + 3 * j)), .int (nI k)]) (rest := []) (fs := [.ref (ad 1), .ref (ad 2), .int (af + 1), .int (cf + 1)]) (fm_endMapping hj hk hf) hx hb hml hown hts hN hG t_129 t_131 s_11 t_1 t_132 nm_X2_endMapping ⟨by decide, by decide⟩ fp_0 rfl hl.1 (Nat.le_of_ble_eq_true rfl) dX2_resolveFault_106 ⟨Nat.zero_le _, Nat.zero_le _⟩ (fun H locs hG => ?_)
  refine W.eq (g2 := F0 m 109 ls []) rfl ?_
  refine lv_aload_n hx hb dX2_resolveFault_109 rfl (lv_at hl 4 rfl) ?_
  refine lv_aload_n hx hb dX2_resolveFault_110 rfl (lv_at hl 5 rfl) ?_
  refine lv_iload_n hx hb dX2_resolveFault_111 rfl (lv_at hl 6 rfl) ?_
  refine lv_iload hx hb dX2_resolveFault_112 (lv_at hl 1 rfl) ?_
  refine lv_iload hx hb dX2_resolveFault_114 (lv_at hl 0 rfl) ?_
  refine g_callV (As := [.ref (ad (5 + 3 * j)), .int (nI k), .int (nI (unF ct 24)), .int ((up1 kd j (upd (kd j) k (kd j k ^^^ 4))) j k)]) (rest := []) (fs := [.ref (ad 1), .ref (ad 2), .int (af + 1), .int (cf + 1)]) (fm_startMapping hj hk (unF_lt ct 24 (by decide))) hx hb hml hown hts hN hG t_117 t_119 s_9 t_1 t_120 nm_X2_startMapping ⟨by decide, by decide⟩ fp_0 rfl hl.1 (Nat.le_of_ble_eq_true rfl) dX2_resolveFault_116 ⟨Nat.zero_le _, Nat.zero_le _⟩ (fun H locs hG => ?_)
  refine W.eq (g2 := F0 m 119 ls []) rfl ?_
  refine lv_iconst (v := 2) hx hb dX2_resolveFault_119 (by decide) ?_
  exact g_iret hx hb hr hlk hG dX2_resolveFault_120
end CM
end
section
section CM
variable {l : Launch} {D : va_G} {A : Nat → Prop} {ad : Nat → Nat} {cI cQ cZ : ClassId} {run : Nat → Bool} {mp : Nat → Nat → Bool} {fr : Nat → Nat → Nat} {kd : Nat → Nat → Int32} {wd ct : Nat → Int32} {af cf : Int32}
set_option maxHeartbeats 4000000 in
set_option maxRecDepth 100000 in
theorem fp_spawn_full (h : ∀ i, i < 5 → run i = true) : gM l yX2_spawn cX2_spawn 2 (some .int) 4 90 D cls (fpT cI cQ cZ) A (fpW ad cI cQ run mp fr kd wd ct af cf) [.ref (ad 0)] (some (.int (-7))) (fpW ad cI cQ run mp fr kd wd ct af cf) := by
  refine gM_of (by decide) (Nat.le_of_ble_eq_true rfl) ?_
  intro p e s m args below meth c ls hx hb hml hown hts hN hr hlk hl hG
  have hown : s.vm.findClass RX2 = some m.cls := hown
  have hl : lv_has ls 2 [(0, .ref (ad 0))] := hl
  refine lv_aload_n hx hb dX2_spawn_0 rfl (lv_at hl 0 rfl) ?_
  refine g_callV (As := []) (rest := []) (fs := [.ref (ad 1), .ref (ad 2), .int af, .int cf]) (fm_leastIdle_n h) hx hb hml hown hts hN hG t_70 t_72 s_0 t_1 t_73 nm_X2_leastIdle ⟨by decide, by decide⟩ fp_0 rfl hl.1 (Nat.le_of_ble_eq_true rfl) dX2_spawn_1 ⟨Nat.zero_le _, Nat.zero_le _⟩ (fun H locs hG => ?_)
  refine W.eq (g2 := F0 m 4 ls [.int (-1)]) rfl ?_
  refine lv_istore_n (lv' := [(1, .int (-1)), (0, .ref (ad 0))]) hx hb dX2_spawn_4 rfl hl (by decide) rfl (fun ls hl => ?_)
  refine lv_iload_n hx hb dX2_spawn_5 rfl (lv_at hl 0 rfl) ?_
  refine lv_if_ge (tgt := 12) hx hb dX2_spawn_6 rfl (fun hh => absurd hh (by decide)) (fun _ => ?_)
  refine lv_bipush (v := (-7)) hx hb dX2_spawn_9 (by decide) ?_
  exact g_iret hx hb hr hlk hG dX2_spawn_11
set_option maxHeartbeats 4000000 in
set_option maxRecDepth 100000 in
theorem fp_spawn_room {j : Nat} (hj : j < 5) (h : run j = false) (hm : ∀ i, i < j → run i = true) (h2 : ¬ nI 1 ≤ frF run mp ct) : gM l yX2_spawn cX2_spawn 2 (some .int) 4 90 D cls (fpT cI cQ cZ) A (fpW ad cI cQ run mp fr kd wd ct af cf) [.ref (ad 0)] (some (.int (-8))) (fpW ad cI cQ run mp fr kd wd ct af cf) := by
  refine gM_of (by decide) (Nat.le_of_ble_eq_true rfl) ?_
  intro p e s m args below meth c ls hx hb hml hown hts hN hr hlk hl hG
  have hown : s.vm.findClass RX2 = some m.cls := hown
  have hl : lv_has ls 2 [(0, .ref (ad 0))] := hl
  refine lv_aload_n hx hb dX2_spawn_0 rfl (lv_at hl 0 rfl) ?_
  refine g_callV (As := []) (rest := []) (fs := [.ref (ad 1), .ref (ad 2), .int af, .int cf]) (fm_leastIdle_t hj h hm) hx hb hml hown hts hN hG t_70 t_72 s_0 t_1 t_73 nm_X2_leastIdle ⟨by decide, by decide⟩ fp_0 rfl hl.1 (Nat.le_of_ble_eq_true rfl) dX2_spawn_1 ⟨Nat.zero_le _, Nat.zero_le _⟩ (fun H locs hG => ?_)
  refine W.eq (g2 := F0 m 4 ls [.int (nI j)]) rfl ?_
  refine lv_istore_n (lv' := [(1, .int (nI j)), (0, .ref (ad 0))]) hx hb dX2_spawn_4 rfl hl (by decide) rfl (fun ls hl => ?_)
  refine lv_iload_n hx hb dX2_spawn_5 rfl (lv_at hl 0 rfl) ?_
  refine lv_if_ge (tgt := 12) hx hb dX2_spawn_6 rfl (fun _ => ?_) (fun hh => absurd (nI_pos' (Nat.lt_trans hj (by decide))) hh)
  refine lv_aload_n hx hb dX2_spawn_12 rfl (lv_at hl 1 rfl) ?_
  refine g_callV (As := []) (rest := []) (fs := [.ref (ad 1), .ref (ad 2), .int af, .int cf]) (fm_freeFrames) hx hb hml hown hts hN hG t_74 t_76 s_1 t_1 t_77 nm_X2_freeFrames ⟨by decide, by decide⟩ fp_0 rfl hl.1 (Nat.le_of_ble_eq_true rfl) dX2_spawn_13 ⟨Nat.zero_le _, Nat.zero_le _⟩ (fun H locs hG => ?_)
  refine W.eq (g2 := F0 m 16 ls [.int (frF run mp ct)]) rfl ?_
  refine lv_lconst (v := 0) hx hb dX2_spawn_16 (by decide) ?_
  refine g_callSN (As := [.long 0]) (rest := [.int (frF run mp ct)]) (fm_tables0) hx hb hml hown hts hN hG t_92 t_87 t_2 t_88 nm_X0_tablesFor ⟨by decide, by decide⟩ hl.1 (Nat.le_of_ble_eq_true rfl) dX2_spawn_17 ⟨Nat.zero_le _, Nat.zero_le _⟩ (fun H locs hG => ?_)
  refine W.eq (g2 := F0 m 20 ls [.int (nI 1), .int (frF run mp ct)]) rfl ?_
  refine lv_icmp_ge (tgt := 26) hx hb dX2_spawn_20 rfl (fun hh => absurd hh (h2)) (fun _ => ?_)
  refine lv_bipush (v := (-8)) hx hb dX2_spawn_23 (by decide) ?_
  exact g_iret hx hb hr hlk hG dX2_spawn_25
set_option maxHeartbeats 4000000 in
set_option maxRecDepth 100000 in
theorem fp_spawn_ok {j : Nat} (hj : j < 5) (h : run j = false) (hm : ∀ i, i < j → run i = true) (h2 : nI 1 ≤ frF run mp ct) : gM l yX2_spawn cX2_spawn 2 (some .int) 4 90 D cls (fpT cI cQ cZ) A (fpW ad cI cQ run mp fr kd wd ct af cf) [.ref (ad 0)] (some (.int (nI j))) (fpW ad cI cQ (up1 run j true) mp fr kd wd ct af cf) := by
  refine gM_of (by decide) (Nat.le_of_ble_eq_true rfl) ?_
  intro p e s m args below meth c ls hx hb hml hown hts hN hr hlk hl hG
  have hown : s.vm.findClass RX2 = some m.cls := hown
  have hl : lv_has ls 2 [(0, .ref (ad 0))] := hl
  refine lv_aload_n hx hb dX2_spawn_0 rfl (lv_at hl 0 rfl) ?_
  refine g_callV (As := []) (rest := []) (fs := [.ref (ad 1), .ref (ad 2), .int af, .int cf]) (fm_leastIdle_t hj h hm) hx hb hml hown hts hN hG t_70 t_72 s_0 t_1 t_73 nm_X2_leastIdle ⟨by decide, by decide⟩ fp_0 rfl hl.1 (Nat.le_of_ble_eq_true rfl) dX2_spawn_1 ⟨Nat.zero_le _, Nat.zero_le _⟩ (fun H locs hG => ?_)
  refine W.eq (g2 := F0 m 4 ls [.int (nI j)]) rfl ?_
  refine lv_istore_n (lv' := [(1, .int (nI j)), (0, .ref (ad 0))]) hx hb dX2_spawn_4 rfl hl (by decide) rfl (fun ls hl => ?_)
  refine lv_iload_n hx hb dX2_spawn_5 rfl (lv_at hl 0 rfl) ?_
  refine lv_if_ge (tgt := 12) hx hb dX2_spawn_6 rfl (fun _ => ?_) (fun hh => absurd (nI_pos' (Nat.lt_trans hj (by decide))) hh)
  refine lv_aload_n hx hb dX2_spawn_12 rfl (lv_at hl 1 rfl) ?_
  refine g_callV (As := []) (rest := []) (fs := [.ref (ad 1), .ref (ad 2), .int af, .int cf]) (fm_freeFrames) hx hb hml hown hts hN hG t_74 t_76 s_1 t_1 t_77 nm_X2_freeFrames ⟨by decide, by decide⟩ fp_0 rfl hl.1 (Nat.le_of_ble_eq_true rfl) dX2_spawn_13 ⟨Nat.zero_le _, Nat.zero_le _⟩ (fun H locs hG => ?_)
  refine W.eq (g2 := F0 m 16 ls [.int (frF run mp ct)]) rfl ?_
  refine lv_lconst (v := 0) hx hb dX2_spawn_16 (by decide) ?_
  refine g_callSN (As := [.long 0]) (rest := [.int (frF run mp ct)]) (fm_tables0) hx hb hml hown hts hN hG t_92 t_87 t_2 t_88 nm_X0_tablesFor ⟨by decide, by decide⟩ hl.1 (Nat.le_of_ble_eq_true rfl) dX2_spawn_17 ⟨Nat.zero_le _, Nat.zero_le _⟩ (fun H locs hG => ?_)
  refine W.eq (g2 := F0 m 20 ls [.int (nI 1), .int (frF run mp ct)]) rfl ?_
  refine lv_icmp_ge (tgt := 26) hx hb dX2_spawn_20 rfl (fun _ => ?_) (fun hh => absurd (h2) hh)
  refine lv_aload_n hx hb dX2_spawn_26 rfl (lv_at hl 1 rfl) ?_
  refine g_get (k := 0) (v := .ref (ad 1)) (C := RX2) (ref := RX2) (fs := [.ref (ad 1), .ref (ad 2), .int af, .int cf]) hx hb hown hts hG gX2 rfl fp_0 (by decide) t_53 rfl rfl dX2_spawn_27 ?_
  refine lv_iload_n hx hb dX2_spawn_30 rfl (lv_at hl 0 rfl) ?_
  refine g_aald (i := j) (t0 := 1) hx hb hG fp_1 rfl (hj) (by decide) rfl dX2_spawn_31 ?_
  refine lv_iconst (v := 1) hx hb dX2_spawn_32 (by decide) ?_
  refine g_putN (k := 0) (v := .int 1) (C := RX0) (ref := RX0) (ty := .boolean) (fs := [.int (bI (run j)), .long (en (mp j)), .ref (ad (6 + 3 * j)), .ref (ad (7 + 3 * j))]) (ws' := fpW ad cI cQ (up1 run j true) mp fr kd wd ct af cf) tyX0 tyX0_ok nmX0 hx hb hown hts hN hG gX0 rfl (fp_5 (hj)) (by decide) t_21 rfl rfl (by decide +kernel) rfl rfl (Nat.le_of_ble_eq_true rfl) (fp_s5r hj true) dX2_spawn_33 (fun H locs hG => ?_)
  refine lv_iload_n hx hb dX2_spawn_36 rfl (lv_at hl 0 rfl) ?_
  exact g_iret hx hb hr hlk hG dX2_spawn_37
def fkS (j n : Nat) (mp : Nat → Nat → Bool) (fr : Nat → Nat → Nat) (kd : Nat → Nat → Int32) (ct : Nat → Int32) : Nat → (Nat → Nat → Bool) × (Nat → Nat → Nat) × (Nat → Nat → Int32) × (Nat → Int32)
  | 0 => (mp, fr, kd, ct)
  | i + 1 => if (fkS j n mp fr kd ct i).1 j i then
      (up1 (fkS j n mp fr kd ct i).1 n (up1 ((fkS j n mp fr kd ct i).1 n) i true),
       up1 (fkS j n mp fr kd ct i).2.1 n (up1 ((fkS j n mp fr kd ct i).2.1 n) i ((fkS j n mp fr kd ct i).2.1 j i)),
       up1 (shK (fkS j n mp fr kd ct i).2.2.1 j i) n (upd (shK (fkS j n mp fr kd ct i).2.2.1 j i n) i (shK (fkS j n mp fr kd ct i).2.2.1 j i j i)),
       upd (fkS j n mp fr kd ct i).2.2.2 ((fkS j n mp fr kd ct i).2.1 j i) ((fkS j n mp fr kd ct i).2.2.2 ((fkS j n mp fr kd ct i).2.1 j i) + 1))
    else fkS j n mp fr kd ct i
set_option maxHeartbeats 4000000 in
set_option maxRecDepth 100000 in
theorem fp_fork_1 {x : Int32} (h : ¬ rn run x) : gM l yX2_fork cX2_fork 6 (some .int) 4 90 D cls (fpT cI cQ cZ) A (fpW ad cI cQ run mp fr kd wd ct af cf) [.ref (ad 0), .int x] (some (.int (-1))) (fpW ad cI cQ run mp fr kd wd ct af cf) := by
  refine gM_of (by decide) (Nat.le_of_ble_eq_true rfl) ?_
  intro p e s m args below meth c ls hx hb hml hown hts hN hr hlk hl hG
  have hown : s.vm.findClass RX2 = some m.cls := hown
  have hl : lv_has ls 6 [(0, .ref (ad 0)), (1, .int x)] := hl
  refine lv_aload_n hx hb dX2_fork_0 rfl (lv_at hl 0 rfl) ?_
  refine lv_iload_n hx hb dX2_fork_1 rfl (lv_at hl 1 rfl) ?_
  refine g_callV (As := [.int x]) (rest := []) (fs := [.ref (ad 1), .ref (ad 2), .int af, .int cf]) (fm_isRunning_n h) hx hb hml hown hts hN hG t_97 t_99 s_4 t_1 t_100 nm_X2_isRunning ⟨by decide, by decide⟩ fp_0 rfl hl.1 (Nat.le_of_ble_eq_true rfl) dX2_fork_2 ⟨Nat.zero_le _, Nat.zero_le _⟩ (fun H locs hG => ?_)
  refine W.eq (g2 := F0 m 5 ls [.int 0]) rfl ?_
  refine lv_if_ne (tgt := 10) hx hb dX2_fork_5 rfl (fun hh => absurd (rfl) hh) (fun _ => ?_)
  refine lv_iconst (v := (-1)) hx hb dX2_fork_8 (by decide) ?_
  exact g_iret hx hb hr hlk hG dX2_fork_9
set_option maxHeartbeats 4000000 in
set_option maxRecDepth 100000 in
theorem fp_fork_full {j : Nat} (hj : j < 5) (h : run j = true) (hm : ∀ i, i < 5 → run i = true) : gM l yX2_fork cX2_fork 6 (some .int) 4 90 D cls (fpT cI cQ cZ) A (fpW ad cI cQ run mp fr kd wd ct af cf) [.ref (ad 0), .int (nI j)] (some (.int (-7))) (fpW ad cI cQ run mp fr kd wd ct af cf) := by
  refine gM_of (by decide) (Nat.le_of_ble_eq_true rfl) ?_
  intro p e s m args below meth c ls hx hb hml hown hts hN hr hlk hl hG
  have hown : s.vm.findClass RX2 = some m.cls := hown
  have hl : lv_has ls 6 [(0, .ref (ad 0)), (1, .int (nI j))] := hl
  refine lv_aload_n hx hb dX2_fork_0 rfl (lv_at hl 0 rfl) ?_
  refine lv_iload_n hx hb dX2_fork_1 rfl (lv_at hl 1 rfl) ?_
  refine g_callV (As := [.int (nI j)]) (rest := []) (fs := [.ref (ad 1), .ref (ad 2), .int af, .int cf]) (fm_isRunning_t hj h) hx hb hml hown hts hN hG t_97 t_99 s_4 t_1 t_100 nm_X2_isRunning ⟨by decide, by decide⟩ fp_0 rfl hl.1 (Nat.le_of_ble_eq_true rfl) dX2_fork_2 ⟨Nat.zero_le _, Nat.zero_le _⟩ (fun H locs hG => ?_)
  refine W.eq (g2 := F0 m 5 ls [.int 1]) rfl ?_
  refine lv_if_ne (tgt := 10) hx hb dX2_fork_5 rfl (fun _ => ?_) (fun hh => absurd hh (by decide))
  refine lv_aload_n hx hb dX2_fork_10 rfl (lv_at hl 0 rfl) ?_
  refine g_callV (As := []) (rest := []) (fs := [.ref (ad 1), .ref (ad 2), .int af, .int cf]) (fm_leastIdle_n hm) hx hb hml hown hts hN hG t_70 t_72 s_0 t_1 t_73 nm_X2_leastIdle ⟨by decide, by decide⟩ fp_0 rfl hl.1 (Nat.le_of_ble_eq_true rfl) dX2_fork_11 ⟨Nat.zero_le _, Nat.zero_le _⟩ (fun H locs hG => ?_)
  refine W.eq (g2 := F0 m 14 ls [.int (-1)]) rfl ?_
  refine lv_istore_n (lv' := [(2, .int (-1)), (0, .ref (ad 0)), (1, .int (nI j))]) hx hb dX2_fork_14 rfl hl (by decide) rfl (fun ls hl => ?_)
  refine lv_iload_n hx hb dX2_fork_15 rfl (lv_at hl 0 rfl) ?_
  refine lv_if_ge (tgt := 22) hx hb dX2_fork_16 rfl (fun hh => absurd hh (by decide)) (fun _ => ?_)
  refine lv_bipush (v := (-7)) hx hb dX2_fork_19 (by decide) ?_
  exact g_iret hx hb hr hlk hG dX2_fork_21
set_option maxHeartbeats 4000000 in
set_option maxRecDepth 100000 in
theorem fp_fork_room {j n : Nat} (hj : j < 5) (h : run j = true) (hn : n < 5) (hn0 : run n = false) (hm : ∀ i, i < n → run i = true) (h2 : ¬ nI (tbN (mp j)) ≤ frF run mp ct) : gM l yX2_fork cX2_fork 6 (some .int) 4 90 D cls (fpT cI cQ cZ) A (fpW ad cI cQ run mp fr kd wd ct af cf) [.ref (ad 0), .int (nI j)] (some (.int (-8))) (fpW ad cI cQ run mp fr kd wd ct af cf) := by
  refine gM_of (by decide) (Nat.le_of_ble_eq_true rfl) ?_
  intro p e s m args below meth c ls hx hb hml hown hts hN hr hlk hl hG
  have hown : s.vm.findClass RX2 = some m.cls := hown
  have hl : lv_has ls 6 [(0, .ref (ad 0)), (1, .int (nI j))] := hl
  refine lv_aload_n hx hb dX2_fork_0 rfl (lv_at hl 0 rfl) ?_
  refine lv_iload_n hx hb dX2_fork_1 rfl (lv_at hl 1 rfl) ?_
  refine g_callV (As := [.int (nI j)]) (rest := []) (fs := [.ref (ad 1), .ref (ad 2), .int af, .int cf]) (fm_isRunning_t hj h) hx hb hml hown hts hN hG t_97 t_99 s_4 t_1 t_100 nm_X2_isRunning ⟨by decide, by decide⟩ fp_0 rfl hl.1 (Nat.le_of_ble_eq_true rfl) dX2_fork_2 ⟨Nat.zero_le _, Nat.zero_le _⟩ (fun H locs hG => ?_)
  refine W.eq (g2 := F0 m 5 ls [.int 1]) rfl ?_
  refine lv_if_ne (tgt := 10) hx hb dX2_fork_5 rfl (fun _ => ?_) (fun hh => absurd hh (by decide))
  refine lv_aload_n hx hb dX2_fork_10 rfl (lv_at hl 0 rfl) ?_
  refine g_callV (As := []) (rest := []) (fs := [.ref (ad 1), .ref (ad 2), .int af, .int cf]) (fm_leastIdle_t hn hn0 hm) hx hb hml hown hts hN hG t_70 t_72 s_0 t_1 t_73 nm_X2_leastIdle ⟨by decide, by decide⟩ fp_0 rfl hl.1 (Nat.le_of_ble_eq_true rfl) dX2_fork_11 ⟨Nat.zero_le _, Nat.zero_le _⟩ (fun H locs hG => ?_)
  refine W.eq (g2 := F0 m 14 ls [.int (nI n)]) rfl ?_
  refine lv_istore_n (lv' := [(2, .int (nI n)), (0, .ref (ad 0)), (1, .int (nI j))]) hx hb dX2_fork_14 rfl hl (by decide) rfl (fun ls hl => ?_)
  refine lv_iload_n hx hb dX2_fork_15 rfl (lv_at hl 0 rfl) ?_
  refine lv_if_ge (tgt := 22) hx hb dX2_fork_16 rfl (fun _ => ?_) (fun hh => absurd (nI_pos' (Nat.lt_trans hn (by decide))) hh)
  refine lv_aload_n hx hb dX2_fork_22 rfl (lv_at hl 1 rfl) ?_
  refine g_get (k := 0) (v := .ref (ad 1)) (C := RX2) (ref := RX2) (fs := [.ref (ad 1), .ref (ad 2), .int af, .int cf]) hx hb hown hts hG gX2 rfl fp_0 (by decide) t_53 rfl rfl dX2_fork_23 ?_
  refine lv_iload_n hx hb dX2_fork_26 rfl (lv_at hl 2 rfl) ?_
  refine g_aald (i := j) (t0 := 1) hx hb hG fp_1 rfl (hj) (by decide) rfl dX2_fork_27 ?_
  refine lv_astore_n (lv' := [(3, .ref (ad (5 + 3 * j))), (2, .int (nI n)), (0, .ref (ad 0)), (1, .int (nI j))]) hx hb dX2_fork_28 rfl hl (by decide) rfl (fun ls hl => ?_)
  refine lv_aload_n hx hb dX2_fork_29 rfl (lv_at hl 2 rfl) ?_
  refine g_callV (As := []) (rest := []) (fs := [.ref (ad 1), .ref (ad 2), .int af, .int cf]) (fm_freeFrames) hx hb hml hown hts hN hG t_74 t_76 s_1 t_1 t_77 nm_X2_freeFrames ⟨by decide, by decide⟩ fp_0 rfl hl.1 (Nat.le_of_ble_eq_true rfl) dX2_fork_30 ⟨Nat.zero_le _, Nat.zero_le _⟩ (fun H locs hG => ?_)
  refine W.eq (g2 := F0 m 33 ls [.int (frF run mp ct)]) rfl ?_
  refine lv_aload_n hx hb dX2_fork_33 rfl (lv_at hl 0 rfl) ?_
  refine g_callVN (As := []) (rest := [.int (frF run mp ct)]) (fs := [.int (bI (run j)), .long (en (mp j)), .ref (ad (6 + 3 * j)), .ref (ad (7 + 3 * j))]) (fm_tableCount hj) hx hb hml hown hts hN hG t_82 t_84 s_3 t_2 t_85 nm_X0_tableCount ⟨by decide, by decide⟩ (fp_5 (hj)) rfl hl.1 (Nat.le_of_ble_eq_true rfl) dX2_fork_34 ⟨Nat.zero_le _, Nat.zero_le _⟩ (fun H locs hG => ?_)
  refine W.eq (g2 := F0 m 37 ls [.int (nI (tbN (mp j))), .int (frF run mp ct)]) rfl ?_
  refine lv_icmp_ge (tgt := 43) hx hb dX2_fork_37 rfl (fun hh => absurd hh (h2)) (fun _ => ?_)
  refine lv_bipush (v := (-8)) hx hb dX2_fork_40 (by decide) ?_
  exact g_iret hx hb hr hlk hG dX2_fork_42
set_option maxHeartbeats 4000000 in
set_option maxRecDepth 100000 in
theorem fp_fork_ok {j n : Nat} (hj : j < 5) (h : run j = true) (hn : n < 5) (hn0 : run n = false) (hm : ∀ i, i < n → run i = true) (h2 : nI (tbN (mp j)) ≤ frF run mp ct) (hf : ∀ i, i < 64 → (fkS j n mp fr kd ct i).1 j i = true → (fkS j n mp fr kd ct i).2.1 j i < 24) : gM l yX2_fork cX2_fork 6 (some .int) 4 90 D cls (fpT cI cQ cZ) A (fpW ad cI cQ run mp fr kd wd ct af cf) [.ref (ad 0), .int (nI j)] (some (.int (nI n))) (fpW ad cI cQ (up1 run n true) ((fkS j n mp fr kd ct 64).1) ((fkS j n mp fr kd ct 64).2.1) ((fkS j n mp fr kd ct 64).2.2.1) wd ((fkS j n mp fr kd ct 64).2.2.2) af cf) := by
  refine gM_of (by decide) (Nat.le_of_ble_eq_true rfl) ?_
  intro p e s m args below meth c ls hx hb hml hown hts hN hr hlk hl hG
  have hown : s.vm.findClass RX2 = some m.cls := hown
  have hl : lv_has ls 6 [(0, .ref (ad 0)), (1, .int (nI j))] := hl
  refine lv_aload_n hx hb dX2_fork_0 rfl (lv_at hl 0 rfl) ?_
  refine lv_iload_n hx hb dX2_fork_1 rfl (lv_at hl 1 rfl) ?_
  refine g_callV (As := [.int (nI j)]) (rest := []) (fs := [.ref (ad 1), .ref (ad 2), .int af, .int cf]) (fm_isRunning_t hj h) hx hb hml hown hts hN hG t_97 t_99 s_4 t_1 t_100 nm_X2_isRunning ⟨by decide, by decide⟩ fp_0 rfl hl.1 (Nat.le_of_ble_eq_true rfl) dX2_fork_2 ⟨Nat.zero_le _, Nat.zero_le _⟩ (fun H locs hG => ?_)
  refine W.eq (g2 := F0 m 5 ls [.int 1]) rfl ?_
  refine lv_if_ne (tgt := 10) hx hb dX2_fork_5 rfl (fun _ => ?_) (fun hh => absurd hh (by decide))
  refine lv_aload_n hx hb dX2_fork_10 rfl (lv_at hl 0 rfl) ?_
  refine g_callV (As := []) (rest := []) (fs := [.ref (ad 1), .ref (ad 2), .int af, .int cf]) (fm_leastIdle_t hn hn0 hm) hx hb hml hown hts hN hG t_70 t_72 s_0 t_1 t_73 nm_X2_leastIdle ⟨by decide, by decide⟩ fp_0 rfl hl.1 (Nat.le_of_ble_eq_true rfl) dX2_fork_11 ⟨Nat.zero_le _, Nat.zero_le _⟩ (fun H locs hG => ?_)
  refine W.eq (g2 := F0 m 14 ls [.int (nI n)]) rfl ?_
  refine lv_istore_n (lv' := [(2, .int (nI n)), (0, .ref (ad 0)), (1, .int (nI j))]) hx hb dX2_fork_14 rfl hl (by decide) rfl (fun ls hl => ?_)
  refine lv_iload_n hx hb dX2_fork_15 rfl (lv_at hl 0 rfl) ?_
  refine lv_if_ge (tgt := 22) hx hb dX2_fork_16 rfl (fun _ => ?_) (fun hh => absurd (nI_pos' (Nat.lt_trans hn (by decide))) hh)
  refine lv_aload_n hx hb dX2_fork_22 rfl (lv_at hl 1 rfl) ?_
  refine g_get (k := 0) (v := .ref (ad 1)) (C := RX2) (ref := RX2) (fs := [.ref (ad 1), .ref (ad 2), .int af, .int cf]) hx hb hown hts hG gX2 rfl fp_0 (by decide) t_53 rfl rfl dX2_fork_23 ?_
  refine lv_iload_n hx hb dX2_fork_26 rfl (lv_at hl 2 rfl) ?_
  refine g_aald (i := j) (t0 := 1) hx hb hG fp_1 rfl (hj) (by decide) rfl dX2_fork_27 ?_
  refine lv_astore_n (lv' := [(3, .ref (ad (5 + 3 * j))), (2, .int (nI n)), (0, .ref (ad 0)), (1, .int (nI j))]) hx hb dX2_fork_28 rfl hl (by decide) rfl (fun ls hl => ?_)
  refine lv_aload_n hx hb dX2_fork_29 rfl (lv_at hl 2 rfl) ?_
  refine g_callV (As := []) (rest := []) (fs := [.ref (ad 1), .ref (ad 2), .int af, .int cf]) (fm_freeFrames) hx hb hml hown hts hN hG t_74 t_76 s_1 t_1 t_77 nm_X2_freeFrames ⟨by decide, by decide⟩ fp_0 rfl hl.1 (Nat.le_of_ble_eq_true rfl) dX2_fork_30 ⟨Nat.zero_le _, Nat.zero_le _⟩ (fun H locs hG => ?_)
  refine W.eq (g2 := F0 m 33 ls [.int (frF run mp ct)]) rfl ?_
  refine lv_aload_n hx hb dX2_fork_33 rfl (lv_at hl 0 rfl) ?_
  refine g_callVN (As := []) (rest := [.int (frF run mp ct)]) (fs := [.int (bI (run j)), .long (en (mp j)), .ref (ad (6 + 3 * j)), .ref (ad (7 + 3 * j))]) (fm_tableCount hj) hx hb hml hown hts hN hG t_82 t_84 s_3 t_2 t_85 nm_X0_tableCount ⟨by decide, by decide⟩ (fp_5 (hj)) rfl hl.1 (Nat.le_of_ble_eq_true rfl) dX2_fork_34 ⟨Nat.zero_le _, Nat.zero_le _⟩ (fun H locs hG => ?_)
  refine W.eq (g2 := F0 m 37 ls [.int (nI (tbN (mp j))), .int (frF run mp ct)]) rfl ?_
  refine lv_icmp_ge (tgt := 43) hx hb dX2_fork_37 rfl (fun _ => ?_) (fun hh => absurd (h2) hh)
  refine lv_aload_n hx hb dX2_fork_43 rfl (lv_at hl 2 rfl) ?_
  refine g_get (k := 0) (v := .ref (ad 1)) (C := RX2) (ref := RX2) (fs := [.ref (ad 1), .ref (ad 2), .int af, .int cf]) hx hb hown hts hG gX2 rfl fp_0 (by decide) t_53 rfl rfl dX2_fork_44 ?_
  refine lv_iload_n hx hb dX2_fork_47 rfl (lv_at hl 1 rfl) ?_
  refine g_aald (i := n) (t0 := 1) hx hb hG fp_1 rfl (hn) (by decide) rfl dX2_fork_48 ?_
  refine lv_astore (lv' := [(4, .ref (ad (5 + 3 * n))), (3, .ref (ad (5 + 3 * j))), (2, .int (nI n)), (0, .ref (ad 0)), (1, .int (nI j))]) hx hb dX2_fork_49 hl (by decide) rfl (fun ls hl => ?_)
  refine lv_aload hx hb dX2_fork_51 (lv_at hl 0 rfl) ?_
  refine lv_iconst (v := 1) hx hb dX2_fork_53 (by decide) ?_
  refine g_putN (k := 0) (v := .int 1) (C := RX0) (ref := RX0) (ty := .boolean) (fs := [.int (bI (run n)), .long (en (mp n)), .ref (ad (6 + 3 * n)), .ref (ad (7 + 3 * n))]) (ws' := fpW ad cI cQ (up1 run n true) mp fr kd wd ct af cf) tyX0 tyX0_ok nmX0 hx hb hown hts hN hG gX0 rfl (fp_5 (hn)) (by decide) t_21 rfl rfl (by decide +kernel) rfl rfl (Nat.le_of_ble_eq_true rfl) (fp_s5r hn true) dX2_fork_54 (fun H locs hG => ?_)
  refine lv_iconst (v := nI 0) hx hb dX2_fork_57 (by decide) ?_
  refine lv_istore (lv' := [(5, .int (nI 0)), (4, .ref (ad (5 + 3 * n))), (3, .ref (ad (5 + 3 * j))), (2, .int (nI n)), (0, .ref (ad 0)), (1, .int (nI j))]) hx hb dX2_fork_58 hl (by decide) rfl (fun ls hl => ?_)
  have loop : ∀ (n0 i : Nat) (H : Heap) (locs : List Loc) (ls : Array Slot), i + n0 = 64 → gG D cls (fpT cI cQ cZ) A s (fpW ad cI cQ (up1 run n true) ((fkS j n mp fr kd ct i).1) ((fkS j n mp fr kd ct i).2.1) ((fkS j n mp fr kd ct i).2.2.1) wd ((fkS j n mp fr kd ct i).2.2.2) af cf) H locs → lv_has ls 6 [(5, .int (nI i)), (4, .ref (ad (5 + 3 * n))), (3, .ref (ad (5 + 3 * j))), (2, .int (nI n)), (1, .int (nI j)), (0, .ref (ad 0))] → W p l e (gR 4 90) s m args below meth c H locs 0 0 (gQ below args s D cls (fpT cI cQ cZ) A (some (.int (nI n))) (fpW ad cI cQ (up1 run n true) ((fkS j n mp fr kd ct 64).1) ((fkS j n mp fr kd ct 64).2.1) ((fkS j n mp fr kd ct 64).2.2.1) wd ((fkS j n mp fr kd ct 64).2.2.2) af cf)) (F0 m 60 ls []) := by
    intro n0
    induction n0 with
    | zero =>
      intro i H locs ls hi hG hl
      obtain rfl : i = 64 := by omega
      refine lv_iload hx hb dX2_fork_60 (lv_at hl 0 rfl) ?_
      refine lv_bipush (v := nI 64) hx hb dX2_fork_62 (by decide) ?_
      refine lv_icmp_ge (tgt := 91) hx hb dX2_fork_64 rfl (fun _ => ?_) (fun hh => absurd (nI_le (Nat.le_refl 64) (by decide)) hh)
      refine lv_iload_n hx hb dX2_fork_91 rfl (lv_at hl 3 rfl) ?_
      exact g_iret hx hb hr hlk hG dX2_fork_92
    | succ n0 ih =>
      intro i H locs ls hi hG hl
      have hi6 : i < 64 := by omega
      cases hc : (fkS j n mp fr kd ct i).1 j i
      · have hu : fkS j n mp fr kd ct (i + 1) = fkS j n mp fr kd ct i := by simp [fkS, hc]
        refine lv_iload hx hb dX2_fork_60 (lv_at hl 0 rfl) ?_
        refine lv_bipush (v := nI 64) hx hb dX2_fork_62 (by decide) ?_
        refine lv_icmp_ge (tgt := 91) hx hb dX2_fork_64 rfl (fun hh => absurd hh (nI_ge hi6 (by decide))) (fun _ => ?_)
        refine lv_aload_n hx hb dX2_fork_67 rfl (lv_at hl 2 rfl) ?_
        refine lv_iload hx hb dX2_fork_68 (lv_at hl 0 rfl) ?_
        refine g_callVN (As := [.int (nI i)]) (rest := []) (fs := [.int (bI ((up1 run n true) j)), .long (en (((fkS j n mp fr kd ct i).1) j)), .ref (ad (6 + 3 * j)), .ref (ad (7 + 3 * j))]) (fm_has_f hj hi6 hc) hx hb hml hown hts hN hG t_101 t_103 s_5 t_2 t_104 nm_X0_has ⟨by decide, by decide⟩ (fp_5 (hj)) rfl hl.1 (Nat.le_of_ble_eq_true rfl) dX2_fork_70 ⟨Nat.zero_le _, Nat.zero_le _⟩ (fun H locs hG => ?_)
        refine W.eq (g2 := F0 m 73 ls [.int 0]) rfl ?_
        refine lv_if_eq (tgt := 85) hx hb dX2_fork_73 rfl (fun _ => ?_) (fun hh => absurd (rfl) hh)
        refine lv_iinc (k := 0) (v := nI (i + 1)) (lv' := [(5, .int (nI (i + 1))), (4, .ref (ad (5 + 3 * n))), (3, .ref (ad (5 + 3 * j))), (2, .int (nI n)), (1, .int (nI j)), (0, .ref (ad 0))]) hx hb dX2_fork_85 hl rfl (nI_1 i) (by decide) rfl (fun ls hl => ?_)
        refine lv_goto (tgt := 60) hx hb dX2_fork_88 rfl ?_
        exact ih (i + 1) _ _ _ (by omega) (by rw [hu]; exact hG) (lv_sub hl [0, 1, 2, 3, 4, 5] rfl)
      · have hu : fkS j n mp fr kd ct (i + 1) = _ := if_pos hc
        refine lv_iload hx hb dX2_fork_60 (lv_at hl 0 rfl) ?_
        refine lv_bipush (v := nI 64) hx hb dX2_fork_62 (by decide) ?_
        refine lv_icmp_ge (tgt := 91) hx hb dX2_fork_64 rfl (fun hh => absurd hh (nI_ge hi6 (by decide))) (fun _ => ?_)
        refine lv_aload_n hx hb dX2_fork_67 rfl (lv_at hl 2 rfl) ?_
        refine lv_iload hx hb dX2_fork_68 (lv_at hl 0 rfl) ?_
        refine g_callVN (As := [.int (nI i)]) (rest := []) (fs := [.int (bI ((up1 run n true) j)), .long (en (((fkS j n mp fr kd ct i).1) j)), .ref (ad (6 + 3 * j)), .ref (ad (7 + 3 * j))]) (fm_has_t hj hi6 hc) hx hb hml hown hts hN hG t_101 t_103 s_5 t_2 t_104 nm_X0_has ⟨by decide, by decide⟩ (fp_5 (hj)) rfl hl.1 (Nat.le_of_ble_eq_true rfl) dX2_fork_70 ⟨Nat.zero_le _, Nat.zero_le _⟩ (fun H locs hG => ?_)
        refine W.eq (g2 := F0 m 73 ls [.int 1]) rfl ?_
        refine lv_if_eq (tgt := 85) hx hb dX2_fork_73 rfl (fun hh => absurd hh (by decide)) (fun _ => ?_)
        refine lv_aload_n hx hb dX2_fork_76 rfl (lv_at hl 5 rfl) ?_
        refine lv_aload_n hx hb dX2_fork_77 rfl (lv_at hl 2 rfl) ?_
        refine lv_aload hx hb dX2_fork_78 (lv_at hl 1 rfl) ?_
        refine lv_iload hx hb dX2_fork_80 (lv_at hl 0 rfl) ?_
        refine g_callV (As := [.ref (ad (5 + 3 * j)), .ref (ad (5 + 3 * n)), .int (nI i)]) (rest := []) (fs := [.ref (ad 1), .ref (ad 2), .int af, .int cf]) (fm_sharePage hj hn hi6 (hf i hi6 hc)) hx hb hml hown hts hN hG t_105 t_107 s_6 t_1 t_108 nm_X2_sharePage ⟨by decide, by decide⟩ fp_0 rfl hl.1 (Nat.le_of_ble_eq_true rfl) dX2_fork_82 ⟨Nat.zero_le _, Nat.zero_le _⟩ (fun H locs hG => ?_)
        refine W.eq (g2 := F0 m 85 ls []) rfl ?_
        refine lv_iinc (k := 0) (v := nI (i + 1)) (lv' := [(5, .int (nI (i + 1))), (4, .ref (ad (5 + 3 * n))), (3, .ref (ad (5 + 3 * j))), (2, .int (nI n)), (1, .int (nI j)), (0, .ref (ad 0))]) hx hb dX2_fork_85 hl rfl (nI_1 i) (by decide) rfl (fun ls hl => ?_)
        refine lv_goto (tgt := 60) hx hb dX2_fork_88 rfl ?_
        exact ih (i + 1) _ _ _ (by omega) (by rw [hu]; exact hG) (lv_sub hl [0, 1, 2, 3, 4, 5] rfl)
  exact loop 64 0 _ _ _ (by omega) hG (lv_sub hl [0, 1, 2, 3, 5, 4] rfl)
def exS (j : Nat) (fr : Nat → Nat → Nat) (mp : Nat → Nat → Bool) (ct : Nat → Int32) : Nat → (Nat → Nat → Bool) × (Nat → Int32)
  | 0 => (mp, ct)
  | i + 1 => if (exS j fr mp ct i).1 j i then
      (up1 (exS j fr mp ct i).1 j (up1 ((exS j fr mp ct i).1 j) i false), upd (exS j fr mp ct i).2 (fr j i) ((exS j fr mp ct i).2 (fr j i) - 1))
    else exS j fr mp ct i
set_option maxHeartbeats 4000000 in
set_option maxRecDepth 100000 in
theorem fp_exit_1 {x : Int32} (h : ¬ rn run x) : gM l yX2_exit cX2_exit 5 (some .int) 4 90 D cls (fpT cI cQ cZ) A (fpW ad cI cQ run mp fr kd wd ct af cf) [.ref (ad 0), .int x] (some (.int (-1))) (fpW ad cI cQ run mp fr kd wd ct af cf) := by
  refine gM_of (by decide) (Nat.le_of_ble_eq_true rfl) ?_
  intro p e s m args below meth c ls hx hb hml hown hts hN hr hlk hl hG
  have hown : s.vm.findClass RX2 = some m.cls := hown
  have hl : lv_has ls 5 [(0, .ref (ad 0)), (1, .int x)] := hl
  refine lv_aload_n hx hb dX2_exit_0 rfl (lv_at hl 0 rfl) ?_
  refine lv_iload_n hx hb dX2_exit_1 rfl (lv_at hl 1 rfl) ?_
  refine g_callV (As := [.int x]) (rest := []) (fs := [.ref (ad 1), .ref (ad 2), .int af, .int cf]) (fm_isRunning_n h) hx hb hml hown hts hN hG t_97 t_99 s_4 t_1 t_100 nm_X2_isRunning ⟨by decide, by decide⟩ fp_0 rfl hl.1 (Nat.le_of_ble_eq_true rfl) dX2_exit_2 ⟨Nat.zero_le _, Nat.zero_le _⟩ (fun H locs hG => ?_)
  refine W.eq (g2 := F0 m 5 ls [.int 0]) rfl ?_
  refine lv_if_ne (tgt := 10) hx hb dX2_exit_5 rfl (fun hh => absurd (rfl) hh) (fun _ => ?_)
  refine lv_iconst (v := (-1)) hx hb dX2_exit_8 (by decide) ?_
  exact g_iret hx hb hr hlk hG dX2_exit_9
set_option maxHeartbeats 4000000 in
set_option maxRecDepth 100000 in
theorem fp_exit_ok {j : Nat} (hj : j < 5) (h : run j = true) (hf : ∀ i, i < 64 → (exS j fr mp ct i).1 j i = true → fr j i < 24) : gM l yX2_exit cX2_exit 5 (some .int) 4 90 D cls (fpT cI cQ cZ) A (fpW ad cI cQ run mp fr kd wd ct af cf) [.ref (ad 0), .int (nI j)] (some (.int (frF (up1 run j false) (exS j fr mp ct 64).1 (exS j fr mp ct 64).2 - frF run mp ct))) (fpW ad cI cQ (up1 run j false) ((exS j fr mp ct 64).1) fr kd wd ((exS j fr mp ct 64).2) af cf) := by
  refine gM_of (by decide) (Nat.le_of_ble_eq_true rfl) ?_
  intro p e s m args below meth c ls hx hb hml hown hts hN hr hlk hl hG
  have hown : s.vm.findClass RX2 = some m.cls := hown
  have hl : lv_has ls 5 [(0, .ref (ad 0)), (1, .int (nI j))] := hl
  refine lv_aload_n hx hb dX2_exit_0 rfl (lv_at hl 0 rfl) ?_
  refine lv_iload_n hx hb dX2_exit_1 rfl (lv_at hl 1 rfl) ?_
  refine g_callV (As := [.int (nI j)]) (rest := []) (fs := [.ref (ad 1), .ref (ad 2), .int af, .int cf]) (fm_isRunning_t hj h) hx hb hml hown hts hN hG t_97 t_99 s_4 t_1 t_100 nm_X2_isRunning ⟨by decide, by decide⟩ fp_0 rfl hl.1 (Nat.le_of_ble_eq_true rfl) dX2_exit_2 ⟨Nat.zero_le _, Nat.zero_le _⟩ (fun H locs hG => ?_)
  refine W.eq (g2 := F0 m 5 ls [.int 1]) rfl ?_
  refine lv_if_ne (tgt := 10) hx hb dX2_exit_5 rfl (fun _ => ?_) (fun hh => absurd hh (by decide))
  refine lv_aload_n hx hb dX2_exit_10 rfl (lv_at hl 0 rfl) ?_
  refine g_callV (As := []) (rest := []) (fs := [.ref (ad 1), .ref (ad 2), .int af, .int cf]) (fm_freeFrames) hx hb hml hown hts hN hG t_74 t_76 s_1 t_1 t_77 nm_X2_freeFrames ⟨by decide, by decide⟩ fp_0 rfl hl.1 (Nat.le_of_ble_eq_true rfl) dX2_exit_11 ⟨Nat.zero_le _, Nat.zero_le _⟩ (fun H locs hG => ?_)
  refine W.eq (g2 := F0 m 14 ls [.int (frF run mp ct)]) rfl ?_
  refine lv_istore_n (lv' := [(2, .int (frF run mp ct)), (0, .ref (ad 0)), (1, .int (nI j))]) hx hb dX2_exit_14 rfl hl (by decide) rfl (fun ls hl => ?_)
  refine lv_aload_n hx hb dX2_exit_15 rfl (lv_at hl 1 rfl) ?_
  refine g_get (k := 0) (v := .ref (ad 1)) (C := RX2) (ref := RX2) (fs := [.ref (ad 1), .ref (ad 2), .int af, .int cf]) hx hb hown hts hG gX2 rfl fp_0 (by decide) t_53 rfl rfl dX2_exit_16 ?_
  refine lv_iload_n hx hb dX2_exit_19 rfl (lv_at hl 2 rfl) ?_
  refine g_aald (i := j) (t0 := 1) hx hb hG fp_1 rfl (hj) (by decide) rfl dX2_exit_20 ?_
  refine lv_astore_n (lv' := [(3, .ref (ad (5 + 3 * j))), (2, .int (frF run mp ct)), (0, .ref (ad 0)), (1, .int (nI j))]) hx hb dX2_exit_21 rfl hl (by decide) rfl (fun ls hl => ?_)
  refine lv_iconst (v := nI 0) hx hb dX2_exit_22 (by decide) ?_
  refine lv_istore (lv' := [(4, .int (nI 0)), (3, .ref (ad (5 + 3 * j))), (2, .int (frF run mp ct)), (0, .ref (ad 0)), (1, .int (nI j))]) hx hb dX2_exit_23 hl (by decide) rfl (fun ls hl => ?_)
  have loop : ∀ (n i : Nat) (H : Heap) (locs : List Loc) (ls : Array Slot), i + n = 64 → gG D cls (fpT cI cQ cZ) A s (fpW ad cI cQ run ((exS j fr mp ct i).1) fr kd wd ((exS j fr mp ct i).2) af cf) H locs → lv_has ls 5 [(4, .int (nI i)), (3, .ref (ad (5 + 3 * j))), (2, .int (frF run mp ct)), (1, .int (nI j)), (0, .ref (ad 0))] → W p l e (gR 4 90) s m args below meth c H locs 0 0 (gQ below args s D cls (fpT cI cQ cZ) A (some (.int (frF (up1 run j false) (exS j fr mp ct 64).1 (exS j fr mp ct 64).2 - frF run mp ct))) (fpW ad cI cQ (up1 run j false) ((exS j fr mp ct 64).1) fr kd wd ((exS j fr mp ct 64).2) af cf)) (F0 m 25 ls []) := by
    intro n
    induction n with
    | zero =>
      intro i H locs ls hi hG hl
      obtain rfl : i = 64 := by omega
      refine lv_iload hx hb dX2_exit_25 (lv_at hl 0 rfl) ?_
      refine lv_bipush (v := nI 64) hx hb dX2_exit_27 (by decide) ?_
      refine lv_icmp_ge (tgt := 54) hx hb dX2_exit_29 rfl (fun _ => ?_) (fun hh => absurd (nI_le (Nat.le_refl 64) (by decide)) hh)
      refine lv_aload_n hx hb dX2_exit_54 rfl (lv_at hl 1 rfl) ?_
      refine lv_iconst (v := 0) hx hb dX2_exit_55 (by decide) ?_
      refine g_putN (k := 0) (v := .int 0) (C := RX0) (ref := RX0) (ty := .boolean) (fs := [.int (bI (run j)), .long (en (((exS j fr mp ct 64).1) j)), .ref (ad (6 + 3 * j)), .ref (ad (7 + 3 * j))]) (ws' := fpW ad cI cQ (up1 run j false) ((exS j fr mp ct 64).1) fr kd wd ((exS j fr mp ct 64).2) af cf) tyX0 tyX0_ok nmX0 hx hb hown hts hN hG gX0 rfl (fp_5 (hj)) (by decide) t_21 rfl rfl (by decide +kernel) rfl rfl (Nat.le_of_ble_eq_true rfl) (fp_s5r hj false) dX2_exit_56 (fun H locs hG => ?_)
      refine lv_aload_n hx hb dX2_exit_59 rfl (lv_at hl 4 rfl) ?_
      refine g_callV (As := []) (rest := []) (fs := [.ref (ad 1), .ref (ad 2), .int af, .int cf]) (fm_freeFrames) hx hb hml hown hts hN hG t_74 t_76 s_1 t_1 t_77 nm_X2_freeFrames ⟨by decide, by decide⟩ fp_0 rfl hl.1 (Nat.le_of_ble_eq_true rfl) dX2_exit_60 ⟨Nat.zero_le _, Nat.zero_le _⟩ (fun H locs hG => ?_)
      refine W.eq (g2 := F0 m 63 ls [.int (frF (up1 run j false) (exS j fr mp ct 64).1 (exS j fr mp ct 64).2)]) rfl ?_
      refine lv_iload_n hx hb dX2_exit_63 rfl (lv_at hl 2 rfl) ?_
      refine lv_isub hx hb dX2_exit_64 ?_
      exact g_iret hx hb hr hlk hG dX2_exit_65
    | succ n ih =>
      intro i H locs ls hi hG hl
      have hi6 : i < 64 := by omega
      cases hc : (exS j fr mp ct i).1 j i
      · have hu : exS j fr mp ct (i + 1) = exS j fr mp ct i := by simp [exS, hc]
        refine lv_iload hx hb dX2_exit_25 (lv_at hl 0 rfl) ?_
        refine lv_bipush (v := nI 64) hx hb dX2_exit_27 (by decide) ?_
        refine lv_icmp_ge (tgt := 54) hx hb dX2_exit_29 rfl (fun hh => absurd hh (nI_ge hi6 (by decide))) (fun _ => ?_)
        refine lv_aload_n hx hb dX2_exit_32 rfl (lv_at hl 1 rfl) ?_
        refine lv_iload hx hb dX2_exit_33 (lv_at hl 0 rfl) ?_
        refine g_callVN (As := [.int (nI i)]) (rest := []) (fs := [.int (bI (run j)), .long (en (((exS j fr mp ct i).1) j)), .ref (ad (6 + 3 * j)), .ref (ad (7 + 3 * j))]) (fm_has_f hj hi6 hc) hx hb hml hown hts hN hG t_101 t_103 s_5 t_2 t_104 nm_X0_has ⟨by decide, by decide⟩ (fp_5 (hj)) rfl hl.1 (Nat.le_of_ble_eq_true rfl) dX2_exit_35 ⟨Nat.zero_le _, Nat.zero_le _⟩ (fun H locs hG => ?_)
        refine W.eq (g2 := F0 m 38 ls [.int 0]) rfl ?_
        refine lv_if_eq (tgt := 48) hx hb dX2_exit_38 rfl (fun _ => ?_) (fun hh => absurd (rfl) hh)
        refine lv_iinc (k := 0) (v := nI (i + 1)) (lv' := [(4, .int (nI (i + 1))), (3, .ref (ad (5 + 3 * j))), (2, .int (frF run mp ct)), (1, .int (nI j)), (0, .ref (ad 0))]) hx hb dX2_exit_48 hl rfl (nI_1 i) (by decide) rfl (fun ls hl => ?_)
        refine lv_goto (tgt := 25) hx hb dX2_exit_51 rfl ?_
        exact ih (i + 1) _ _ _ (by omega) (by rw [hu]; exact hG) (lv_sub hl [0, 1, 2, 3, 4] rfl)
      · have hu : exS j fr mp ct (i + 1) = _ := if_pos hc
        refine lv_iload hx hb dX2_exit_25 (lv_at hl 0 rfl) ?_
        refine lv_bipush (v := nI 64) hx hb dX2_exit_27 (by decide) ?_
        refine lv_icmp_ge (tgt := 54) hx hb dX2_exit_29 rfl (fun hh => absurd hh (nI_ge hi6 (by decide))) (fun _ => ?_)
        refine lv_aload_n hx hb dX2_exit_32 rfl (lv_at hl 1 rfl) ?_
        refine lv_iload hx hb dX2_exit_33 (lv_at hl 0 rfl) ?_
        refine g_callVN (As := [.int (nI i)]) (rest := []) (fs := [.int (bI (run j)), .long (en (((exS j fr mp ct i).1) j)), .ref (ad (6 + 3 * j)), .ref (ad (7 + 3 * j))]) (fm_has_t hj hi6 hc) hx hb hml hown hts hN hG t_101 t_103 s_5 t_2 t_104 nm_X0_has ⟨by decide, by decide⟩ (fp_5 (hj)) rfl hl.1 (Nat.le_of_ble_eq_true rfl) dX2_exit_35 ⟨Nat.zero_le _, Nat.zero_le _⟩ (fun H locs hG => ?_)
        refine W.eq (g2 := F0 m 38 ls [.int 1]) rfl ?_
        refine lv_if_eq (tgt := 48) hx hb dX2_exit_38 rfl (fun hh => absurd hh (by decide)) (fun _ => ?_)
        refine lv_aload_n hx hb dX2_exit_41 rfl (lv_at hl 4 rfl) ?_
        refine lv_aload_n hx hb dX2_exit_42 rfl (lv_at hl 1 rfl) ?_
        refine lv_iload hx hb dX2_exit_43 (lv_at hl 0 rfl) ?_
        refine g_callV (As := [.ref (ad (5 + 3 * j)), .int (nI i)]) (rest := []) (fs := [.ref (ad 1), .ref (ad 2), .int af, .int cf]) (fm_endMapping hj hi6 (hf i hi6 hc)) hx hb hml hown hts hN hG t_129 t_131 s_11 t_1 t_132 nm_X2_endMapping ⟨by decide, by decide⟩ fp_0 rfl hl.1 (Nat.le_of_ble_eq_true rfl) dX2_exit_45 ⟨Nat.zero_le _, Nat.zero_le _⟩ (fun H locs hG => ?_)
        refine W.eq (g2 := F0 m 48 ls []) rfl ?_
        refine lv_iinc (k := 0) (v := nI (i + 1)) (lv' := [(4, .int (nI (i + 1))), (3, .ref (ad (5 + 3 * j))), (2, .int (frF run mp ct)), (1, .int (nI j)), (0, .ref (ad 0))]) hx hb dX2_exit_48 hl rfl (nI_1 i) (by decide) rfl (fun ls hl => ?_)
        refine lv_goto (tgt := 25) hx hb dX2_exit_51 rfl ?_
        exact ih (i + 1) _ _ _ (by omega) (by rw [hu]; exact hG) (lv_sub hl [0, 1, 2, 3, 4] rfl)
  exact loop 64 0 _ _ _ (by omega) hG (lv_sub hl [0, 1, 2, 4, 3] rfl)
end CM
end
section
section CM
variable {l : Launch} {D : va_G} {A : Nat → Prop} {ad : Nat → Nat} {cI cQ cZ : ClassId} {run : Nat → Bool} {mp : Nat → Nat → Bool} {fr : Nat → Nat → Nat} {kd : Nat → Nat → Int32} {wd ct : Nat → Int32} {af cf : Int32}
set_option maxHeartbeats 4000000 in
set_option maxRecDepth 100000 in
theorem fp_map_1 {x y z : Int32} (h : ¬ rn run x) : gM l yX2_map cX2_map 7 (some .int) 4 90 D cls (fpT cI cQ cZ) A (fpW ad cI cQ run mp fr kd wd ct af cf) [.ref (ad 0), .int x, .int y, .int z] (some (.int (-1))) (fpW ad cI cQ run mp fr kd wd ct af cf) := by
  refine gM_of (by decide) (Nat.le_of_ble_eq_true rfl) ?_
  intro p e s m args below meth c ls hx hb hml hown hts hN hr hlk hl hG
  have hown : s.vm.findClass RX2 = some m.cls := hown
  have hl : lv_has ls 7 [(0, .ref (ad 0)), (1, .int x), (2, .int y), (3, .int z)] := hl
  refine lv_aload_n hx hb dX2_map_0 rfl (lv_at hl 0 rfl) ?_
  refine lv_iload_n hx hb dX2_map_1 rfl (lv_at hl 1 rfl) ?_
  refine g_callV (As := [.int x]) (rest := []) (fs := [.ref (ad 1), .ref (ad 2), .int af, .int cf]) (fm_isRunning_n h) hx hb hml hown hts hN hG t_97 t_99 s_4 t_1 t_100 nm_X2_isRunning ⟨by decide, by decide⟩ fp_0 rfl hl.1 (Nat.le_of_ble_eq_true rfl) dX2_map_2 ⟨Nat.zero_le _, Nat.zero_le _⟩ (fun H locs hG => ?_)
  refine W.eq (g2 := F0 m 5 ls [.int 0]) rfl ?_
  refine lv_if_ne (tgt := 10) hx hb dX2_map_5 rfl (fun hh => absurd (rfl) hh) (fun _ => ?_)
  refine lv_iconst (v := (-1)) hx hb dX2_map_8 (by decide) ?_
  exact g_iret hx hb hr hlk hG dX2_map_9
set_option maxHeartbeats 4000000 in
set_option maxRecDepth 100000 in
theorem fp_map_2 {j : Nat} {y z : Int32} (hj : j < 5) (h : run j = true) (h2 : ¬ pgI y) : gM l yX2_map cX2_map 7 (some .int) 4 90 D cls (fpT cI cQ cZ) A (fpW ad cI cQ run mp fr kd wd ct af cf) [.ref (ad 0), .int (nI j), .int y, .int z] (some (.int (-2))) (fpW ad cI cQ run mp fr kd wd ct af cf) := by
  refine gM_of (by decide) (Nat.le_of_ble_eq_true rfl) ?_
  intro p e s m args below meth c ls hx hb hml hown hts hN hr hlk hl hG
  have hown : s.vm.findClass RX2 = some m.cls := hown
  have hl : lv_has ls 7 [(0, .ref (ad 0)), (1, .int (nI j)), (2, .int y), (3, .int z)] := hl
  refine lv_aload_n hx hb dX2_map_0 rfl (lv_at hl 0 rfl) ?_
  refine lv_iload_n hx hb dX2_map_1 rfl (lv_at hl 1 rfl) ?_
  refine g_callV (As := [.int (nI j)]) (rest := []) (fs := [.ref (ad 1), .ref (ad 2), .int af, .int cf]) (fm_isRunning_t hj h) hx hb hml hown hts hN hG t_97 t_99 s_4 t_1 t_100 nm_X2_isRunning ⟨by decide, by decide⟩ fp_0 rfl hl.1 (Nat.le_of_ble_eq_true rfl) dX2_map_2 ⟨Nat.zero_le _, Nat.zero_le _⟩ (fun H locs hG => ?_)
  refine W.eq (g2 := F0 m 5 ls [.int 1]) rfl ?_
  refine lv_if_ne (tgt := 10) hx hb dX2_map_5 rfl (fun _ => ?_) (fun hh => absurd hh (by decide))
  refine lv_iload_n hx hb dX2_map_10 rfl (lv_at hl 2 rfl) ?_
  refine g_callS (As := [.int y]) (rest := []) (fm_isPage_n h2) hx hb hml hown hts hN hG t_142 t_143 t_1 t_144 nm_X2_isPage ⟨by decide, by decide⟩ hl.1 (Nat.le_of_ble_eq_true rfl) dX2_map_11 ⟨Nat.zero_le _, Nat.zero_le _⟩ (fun H locs hG => ?_)
  refine W.eq (g2 := F0 m 14 ls [.int 0]) rfl ?_
  refine lv_if_ne (tgt := 20) hx hb dX2_map_14 rfl (fun hh => absurd (rfl) hh) (fun _ => ?_)
  refine lv_bipush (v := (-2)) hx hb dX2_map_17 (by decide) ?_
  exact g_iret hx hb hr hlk hG dX2_map_19
set_option maxHeartbeats 4000000 in
set_option maxRecDepth 100000 in
theorem fp_map_4 {j k : Nat} (hj : j < 5) (hk : k < 64) {z : Int32} (h : run j = true) (h2 : mp j k = true) : gM l yX2_map cX2_map 7 (some .int) 4 90 D cls (fpT cI cQ cZ) A (fpW ad cI cQ run mp fr kd wd ct af cf) [.ref (ad 0), .int (nI j), .int (nI k), .int z] (some (.int (-4))) (fpW ad cI cQ run mp fr kd wd ct af cf) := by
  refine gM_of (by decide) (Nat.le_of_ble_eq_true rfl) ?_
  intro p e s m args below meth c ls hx hb hml hown hts hN hr hlk hl hG
  have hown : s.vm.findClass RX2 = some m.cls := hown
  have hl : lv_has ls 7 [(0, .ref (ad 0)), (1, .int (nI j)), (2, .int (nI k)), (3, .int z)] := hl
  refine lv_aload_n hx hb dX2_map_0 rfl (lv_at hl 0 rfl) ?_
  refine lv_iload_n hx hb dX2_map_1 rfl (lv_at hl 1 rfl) ?_
  refine g_callV (As := [.int (nI j)]) (rest := []) (fs := [.ref (ad 1), .ref (ad 2), .int af, .int cf]) (fm_isRunning_t hj h) hx hb hml hown hts hN hG t_97 t_99 s_4 t_1 t_100 nm_X2_isRunning ⟨by decide, by decide⟩ fp_0 rfl hl.1 (Nat.le_of_ble_eq_true rfl) dX2_map_2 ⟨Nat.zero_le _, Nat.zero_le _⟩ (fun H locs hG => ?_)
  refine W.eq (g2 := F0 m 5 ls [.int 1]) rfl ?_
  refine lv_if_ne (tgt := 10) hx hb dX2_map_5 rfl (fun _ => ?_) (fun hh => absurd hh (by decide))
  refine lv_iload_n hx hb dX2_map_10 rfl (lv_at hl 2 rfl) ?_
  refine g_callS (As := [.int (nI k)]) (rest := []) (fm_isPage_t hk) hx hb hml hown hts hN hG t_142 t_143 t_1 t_144 nm_X2_isPage ⟨by decide, by decide⟩ hl.1 (Nat.le_of_ble_eq_true rfl) dX2_map_11 ⟨Nat.zero_le _, Nat.zero_le _⟩ (fun H locs hG => ?_)
  refine W.eq (g2 := F0 m 14 ls [.int 1]) rfl ?_
  refine lv_if_ne (tgt := 20) hx hb dX2_map_14 rfl (fun _ => ?_) (fun hh => absurd hh (by decide))
  refine lv_aload_n hx hb dX2_map_20 rfl (lv_at hl 0 rfl) ?_
  refine g_get (k := 0) (v := .ref (ad 1)) (C := RX2) (ref := RX2) (fs := [.ref (ad 1), .ref (ad 2), .int af, .int cf]) hx hb hown hts hG gX2 rfl fp_0 (by decide) t_53 rfl rfl dX2_map_21 ?_
  refine lv_iload_n hx hb dX2_map_24 rfl (lv_at hl 1 rfl) ?_
  refine g_aald (i := j) (t0 := 1) hx hb hG fp_1 rfl (hj) (by decide) rfl dX2_map_25 ?_
  refine lv_astore (lv' := [(4, .ref (ad (5 + 3 * j))), (0, .ref (ad 0)), (1, .int (nI j)), (2, .int (nI k)), (3, .int z)]) hx hb dX2_map_26 hl (by decide) rfl (fun ls hl => ?_)
  refine lv_aload hx hb dX2_map_28 (lv_at hl 0 rfl) ?_
  refine lv_iload_n hx hb dX2_map_30 rfl (lv_at hl 3 rfl) ?_
  refine g_callVN (As := [.int (nI k)]) (rest := []) (fs := [.int (bI (run j)), .long (en (mp j)), .ref (ad (6 + 3 * j)), .ref (ad (7 + 3 * j))]) (fm_has_t hj hk h2) hx hb hml hown hts hN hG t_101 t_103 s_5 t_2 t_104 nm_X0_has ⟨by decide, by decide⟩ (fp_5 (hj)) rfl hl.1 (Nat.le_of_ble_eq_true rfl) dX2_map_31 ⟨Nat.zero_le _, Nat.zero_le _⟩ (fun H locs hG => ?_)
  refine W.eq (g2 := F0 m 34 ls [.int 1]) rfl ?_
  refine lv_if_eq (tgt := 40) hx hb dX2_map_34 rfl (fun hh => absurd hh (by decide)) (fun _ => ?_)
  refine lv_bipush (v := (-4)) hx hb dX2_map_37 (by decide) ?_
  exact g_iret hx hb hr hlk hG dX2_map_39
set_option maxHeartbeats 4000000 in
set_option maxRecDepth 100000 in
theorem fp_map_8 {j k : Nat} (hj : j < 5) (hk : k < 64) {z : Int32} (h : run j = true) (h2 : mp j k = false) (h3 : ¬ 1 + (nI (tbN (up1 (mp j) k true)) - nI (tbN (mp j))) ≤ frF run mp ct) : gM l yX2_map cX2_map 7 (some .int) 4 90 D cls (fpT cI cQ cZ) A (fpW ad cI cQ run mp fr kd wd ct af cf) [.ref (ad 0), .int (nI j), .int (nI k), .int z] (some (.int (-8))) (fpW ad cI cQ run mp fr kd wd ct af cf) := by
  refine gM_of (by decide) (Nat.le_of_ble_eq_true rfl) ?_
  intro p e s m args below meth c ls hx hb hml hown hts hN hr hlk hl hG
  have hown : s.vm.findClass RX2 = some m.cls := hown
  have hl : lv_has ls 7 [(0, .ref (ad 0)), (1, .int (nI j)), (2, .int (nI k)), (3, .int z)] := hl
  refine lv_aload_n hx hb dX2_map_0 rfl (lv_at hl 0 rfl) ?_
  refine lv_iload_n hx hb dX2_map_1 rfl (lv_at hl 1 rfl) ?_
  refine g_callV (As := [.int (nI j)]) (rest := []) (fs := [.ref (ad 1), .ref (ad 2), .int af, .int cf]) (fm_isRunning_t hj h) hx hb hml hown hts hN hG t_97 t_99 s_4 t_1 t_100 nm_X2_isRunning ⟨by decide, by decide⟩ fp_0 rfl hl.1 (Nat.le_of_ble_eq_true rfl) dX2_map_2 ⟨Nat.zero_le _, Nat.zero_le _⟩ (fun H locs hG => ?_)
  refine W.eq (g2 := F0 m 5 ls [.int 1]) rfl ?_
  refine lv_if_ne (tgt := 10) hx hb dX2_map_5 rfl (fun _ => ?_) (fun hh => absurd hh (by decide))
  refine lv_iload_n hx hb dX2_map_10 rfl (lv_at hl 2 rfl) ?_
  refine g_callS (As := [.int (nI k)]) (rest := []) (fm_isPage_t hk) hx hb hml hown hts hN hG t_142 t_143 t_1 t_144 nm_X2_isPage ⟨by decide, by decide⟩ hl.1 (Nat.le_of_ble_eq_true rfl) dX2_map_11 ⟨Nat.zero_le _, Nat.zero_le _⟩ (fun H locs hG => ?_)
  refine W.eq (g2 := F0 m 14 ls [.int 1]) rfl ?_
  refine lv_if_ne (tgt := 20) hx hb dX2_map_14 rfl (fun _ => ?_) (fun hh => absurd hh (by decide))
  refine lv_aload_n hx hb dX2_map_20 rfl (lv_at hl 0 rfl) ?_
  refine g_get (k := 0) (v := .ref (ad 1)) (C := RX2) (ref := RX2) (fs := [.ref (ad 1), .ref (ad 2), .int af, .int cf]) hx hb hown hts hG gX2 rfl fp_0 (by decide) t_53 rfl rfl dX2_map_21 ?_
  refine lv_iload_n hx hb dX2_map_24 rfl (lv_at hl 1 rfl) ?_
  refine g_aald (i := j) (t0 := 1) hx hb hG fp_1 rfl (hj) (by decide) rfl dX2_map_25 ?_
  refine lv_astore (lv' := [(4, .ref (ad (5 + 3 * j))), (0, .ref (ad 0)), (1, .int (nI j)), (2, .int (nI k)), (3, .int z)]) hx hb dX2_map_26 hl (by decide) rfl (fun ls hl => ?_)
  refine lv_aload hx hb dX2_map_28 (lv_at hl 0 rfl) ?_
  refine lv_iload_n hx hb dX2_map_30 rfl (lv_at hl 3 rfl) ?_
  refine g_callVN (As := [.int (nI k)]) (rest := []) (fs := [.int (bI (run j)), .long (en (mp j)), .ref (ad (6 + 3 * j)), .ref (ad (7 + 3 * j))]) (fm_has_f hj hk h2) hx hb hml hown hts hN hG t_101 t_103 s_5 t_2 t_104 nm_X0_has ⟨by decide, by decide⟩ (fp_5 (hj)) rfl hl.1 (Nat.le_of_ble_eq_true rfl) dX2_map_31 ⟨Nat.zero_le _, Nat.zero_le _⟩ (fun H locs hG => ?_)
  refine W.eq (g2 := F0 m 34 ls [.int 0]) rfl ?_
  refine lv_if_eq (tgt := 40) hx hb dX2_map_34 rfl (fun _ => ?_) (fun hh => absurd (rfl) hh)
  refine lv_iconst (v := 1) hx hb dX2_map_40 (by decide) ?_
  refine lv_aload hx hb dX2_map_41 (lv_at hl 0 rfl) ?_
  refine lv_iload_n hx hb dX2_map_43 rfl (lv_at hl 3 rfl) ?_
  refine g_callVN (As := [.int (nI k)]) (rest := [.int 1]) (fs := [.int (bI (run j)), .long (en (mp j)), .ref (ad (6 + 3 * j)), .ref (ad (7 + 3 * j))]) (fm_tablesToAdd hj hk) hx hb hml hown hts hN hG t_145 t_147 s_13 t_2 t_148 nm_X0_tablesToAdd ⟨by decide, by decide⟩ (fp_5 (hj)) rfl hl.1 (Nat.le_of_ble_eq_true rfl) dX2_map_44 ⟨Nat.zero_le _, Nat.zero_le _⟩ (fun H locs hG => ?_)
  refine W.eq (g2 := F0 m 47 ls [.int (nI (tbN (up1 (mp j) k true)) - nI (tbN (mp j))), .int 1]) rfl ?_
  refine lv_iadd hx hb dX2_map_47 ?_
  refine lv_istore (lv' := [(5, .int (1 + (nI (tbN (up1 (mp j) k true)) - nI (tbN (mp j))))), (4, .ref (ad (5 + 3 * j))), (0, .ref (ad 0)), (1, .int (nI j)), (2, .int (nI k)), (3, .int z)]) hx hb dX2_map_48 hl (by decide) rfl (fun ls hl => ?_)
  refine lv_aload_n hx hb dX2_map_50 rfl (lv_at hl 2 rfl) ?_
  refine g_callV (As := []) (rest := []) (fs := [.ref (ad 1), .ref (ad 2), .int af, .int cf]) (fm_freeFrames) hx hb hml hown hts hN hG t_74 t_76 s_1 t_1 t_77 nm_X2_freeFrames ⟨by decide, by decide⟩ fp_0 rfl hl.1 (Nat.le_of_ble_eq_true rfl) dX2_map_51 ⟨Nat.zero_le _, Nat.zero_le _⟩ (fun H locs hG => ?_)
  refine W.eq (g2 := F0 m 54 ls [.int (frF run mp ct)]) rfl ?_
  refine lv_iload hx hb dX2_map_54 (lv_at hl 0 rfl) ?_
  refine lv_icmp_ge (tgt := 62) hx hb dX2_map_56 rfl (fun hh => absurd hh (h3)) (fun _ => ?_)
  refine lv_bipush (v := (-8)) hx hb dX2_map_59 (by decide) ?_
  exact g_iret hx hb hr hlk hG dX2_map_61
set_option maxHeartbeats 4000000 in
set_option maxRecDepth 100000 in
theorem fp_map_c {j k : Nat} (hj : j < 5) (hk : k < 64) {z : Int32} (h : run j = true) (h2 : mp j k = false) (h3 : 1 + (nI (tbN (up1 (mp j) k true)) - nI (tbN (mp j))) ≤ frF run mp ct) (h4 : ¬ z = 0) : gM l yX2_map cX2_map 7 (some .int) 4 90 D cls (fpT cI cQ cZ) A (fpW ad cI cQ run mp fr kd wd ct af cf) [.ref (ad 0), .int (nI j), .int (nI k), .int z] (some (.int (1 + (nI (tbN (up1 (mp j) k true)) - nI (tbN (mp j)))))) (fpW ad cI cQ run (up1 mp j (up1 (mp j) k true)) (up1 fr j (up1 (fr j) k (unF ct 24))) (up1 kd j (upd (kd j) k 3)) (blW wd (unF ct 24)) (upd ct (unF ct 24) (ct (unF ct 24) + 1)) af cf) := by
  refine gM_of (by decide) (Nat.le_of_ble_eq_true rfl) ?_
  intro p e s m args below meth c ls hx hb hml hown hts hN hr hlk hl hG
  have hown : s.vm.findClass RX2 = some m.cls := hown
  have hl : lv_has ls 7 [(0, .ref (ad 0)), (1, .int (nI j)), (2, .int (nI k)), (3, .int z)] := hl
  refine lv_aload_n hx hb dX2_map_0 rfl (lv_at hl 0 rfl) ?_
  refine lv_iload_n hx hb dX2_map_1 rfl (lv_at hl 1 rfl) ?_
  refine g_callV (As := [.int (nI j)]) (rest := []) (fs := [.ref (ad 1), .ref (ad 2), .int af, .int cf]) (fm_isRunning_t hj h) hx hb hml hown hts hN hG t_97 t_99 s_4 t_1 t_100 nm_X2_isRunning ⟨by decide, by decide⟩ fp_0 rfl hl.1 (Nat.le_of_ble_eq_true rfl) dX2_map_2 ⟨Nat.zero_le _, Nat.zero_le _⟩ (fun H locs hG => ?_)
  refine W.eq (g2 := F0 m 5 ls [.int 1]) rfl ?_
  refine lv_if_ne (tgt := 10) hx hb dX2_map_5 rfl (fun _ => ?_) (fun hh => absurd hh (by decide))
  refine lv_iload_n hx hb dX2_map_10 rfl (lv_at hl 2 rfl) ?_
  refine g_callS (As := [.int (nI k)]) (rest := []) (fm_isPage_t hk) hx hb hml hown hts hN hG t_142 t_143 t_1 t_144 nm_X2_isPage ⟨by decide, by decide⟩ hl.1 (Nat.le_of_ble_eq_true rfl) dX2_map_11 ⟨Nat.zero_le _, Nat.zero_le _⟩ (fun H locs hG => ?_)
  refine W.eq (g2 := F0 m 14 ls [.int 1]) rfl ?_
  refine lv_if_ne (tgt := 20) hx hb dX2_map_14 rfl (fun _ => ?_) (fun hh => absurd hh (by decide))
  refine lv_aload_n hx hb dX2_map_20 rfl (lv_at hl 0 rfl) ?_
  refine g_get (k := 0) (v := .ref (ad 1)) (C := RX2) (ref := RX2) (fs := [.ref (ad 1), .ref (ad 2), .int af, .int cf]) hx hb hown hts hG gX2 rfl fp_0 (by decide) t_53 rfl rfl dX2_map_21 ?_
  refine lv_iload_n hx hb dX2_map_24 rfl (lv_at hl 1 rfl) ?_
  refine g_aald (i := j) (t0 := 1) hx hb hG fp_1 rfl (hj) (by decide) rfl dX2_map_25 ?_
  refine lv_astore (lv' := [(4, .ref (ad (5 + 3 * j))), (0, .ref (ad 0)), (1, .int (nI j)), (2, .int (nI k)), (3, .int z)]) hx hb dX2_map_26 hl (by decide) rfl (fun ls hl => ?_)
  refine lv_aload hx hb dX2_map_28 (lv_at hl 0 rfl) ?_
  refine lv_iload_n hx hb dX2_map_30 rfl (lv_at hl 3 rfl) ?_
  refine g_callVN (As := [.int (nI k)]) (rest := []) (fs := [.int (bI (run j)), .long (en (mp j)), .ref (ad (6 + 3 * j)), .ref (ad (7 + 3 * j))]) (fm_has_f hj hk h2) hx hb hml hown hts hN hG t_101 t_103 s_5 t_2 t_104 nm_X0_has ⟨by decide, by decide⟩ (fp_5 (hj)) rfl hl.1 (Nat.le_of_ble_eq_true rfl) dX2_map_31 ⟨Nat.zero_le _, Nat.zero_le _⟩ (fun H locs hG => ?_)
  refine W.eq (g2 := F0 m 34 ls [.int 0]) rfl ?_
  refine lv_if_eq (tgt := 40) hx hb dX2_map_34 rfl (fun _ => ?_) (fun hh => absurd (rfl) hh)
  refine lv_iconst (v := 1) hx hb dX2_map_40 (by decide) ?_
  refine lv_aload hx hb dX2_map_41 (lv_at hl 0 rfl) ?_
  refine lv_iload_n hx hb dX2_map_43 rfl (lv_at hl 3 rfl) ?_
  refine g_callVN (As := [.int (nI k)]) (rest := [.int 1]) (fs := [.int (bI (run j)), .long (en (mp j)), .ref (ad (6 + 3 * j)), .ref (ad (7 + 3 * j))]) (fm_tablesToAdd hj hk) hx hb hml hown hts hN hG t_145 t_147 s_13 t_2 t_148 nm_X0_tablesToAdd ⟨by decide, by decide⟩ (fp_5 (hj)) rfl hl.1 (Nat.le_of_ble_eq_true rfl) dX2_map_44 ⟨Nat.zero_le _, Nat.zero_le _⟩ (fun H locs hG => ?_)
  refine W.eq (g2 := F0 m 47 ls [.int (nI (tbN (up1 (mp j) k true)) - nI (tbN (mp j))), .int 1]) rfl ?_
  refine lv_iadd hx hb dX2_map_47 ?_
  refine lv_istore (lv' := [(5, .int (1 + (nI (tbN (up1 (mp j) k true)) - nI (tbN (mp j))))), (4, .ref (ad (5 + 3 * j))), (0, .ref (ad 0)), (1, .int (nI j)), (2, .int (nI k)), (3, .int z)]) hx hb dX2_map_48 hl (by decide) rfl (fun ls hl => ?_)
  refine lv_aload_n hx hb dX2_map_50 rfl (lv_at hl 2 rfl) ?_
  refine g_callV (As := []) (rest := []) (fs := [.ref (ad 1), .ref (ad 2), .int af, .int cf]) (fm_freeFrames) hx hb hml hown hts hN hG t_74 t_76 s_1 t_1 t_77 nm_X2_freeFrames ⟨by decide, by decide⟩ fp_0 rfl hl.1 (Nat.le_of_ble_eq_true rfl) dX2_map_51 ⟨Nat.zero_le _, Nat.zero_le _⟩ (fun H locs hG => ?_)
  refine W.eq (g2 := F0 m 54 ls [.int (frF run mp ct)]) rfl ?_
  refine lv_iload hx hb dX2_map_54 (lv_at hl 0 rfl) ?_
  refine lv_icmp_ge (tgt := 62) hx hb dX2_map_56 rfl (fun _ => ?_) (fun hh => absurd (h3) hh)
  refine lv_aload_n hx hb dX2_map_62 rfl (lv_at hl 2 rfl) ?_
  refine g_get (k := 1) (v := .ref (ad 2)) (C := RX2) (ref := RX2) (fs := [.ref (ad 1), .ref (ad 2), .int af, .int cf]) hx hb hown hts hG gX2 rfl fp_0 (by decide) t_54 rfl rfl dX2_map_63 ?_
  refine g_callVN (As := []) (rest := []) (fs := [.ref (ad 3), .ref (ad 4)]) (fm_unusedFrame) hx hb hml hown hts hN hG t_149 t_151 s_14 t_3 t_152 nm_X1_unusedFrame ⟨by decide, by decide⟩ fp_2 rfl hl.1 (Nat.le_of_ble_eq_true rfl) dX2_map_66 ⟨Nat.zero_le _, Nat.zero_le _⟩ (fun H locs hG => ?_)
  refine W.eq (g2 := F0 m 69 ls [.int (nI (unF ct 24))]) rfl ?_
  refine lv_istore (lv' := [(6, .int (nI (unF ct 24))), (5, .int (1 + (nI (tbN (up1 (mp j) k true)) - nI (tbN (mp j))))), (4, .ref (ad (5 + 3 * j))), (0, .ref (ad 0)), (1, .int (nI j)), (2, .int (nI k)), (3, .int z)]) hx hb dX2_map_69 hl (by decide) rfl (fun ls hl => ?_)
  refine lv_aload_n hx hb dX2_map_71 rfl (lv_at hl 3 rfl) ?_
  refine g_get (k := 1) (v := .ref (ad 2)) (C := RX2) (ref := RX2) (fs := [.ref (ad 1), .ref (ad 2), .int af, .int cf]) hx hb hown hts hG gX2 rfl fp_0 (by decide) t_54 rfl rfl dX2_map_72 ?_
  refine lv_iload hx hb dX2_map_75 (lv_at hl 0 rfl) ?_
  refine g_callVN (As := [.int (nI (unF ct 24))]) (rest := []) (fs := [.ref (ad 3), .ref (ad 4)]) (fm_blank (unF_lt ct 24 (by decide))) hx hb hml hown hts hN hG t_153 t_155 s_15 t_3 t_156 nm_X1_blank ⟨by decide, by decide⟩ fp_2 rfl hl.1 (Nat.le_of_ble_eq_true rfl) dX2_map_77 ⟨Nat.zero_le _, Nat.zero_le _⟩ (fun H locs hG => ?_)
  refine W.eq (g2 := F0 m 80 ls []) rfl ?_
  refine lv_aload_n hx hb dX2_map_80 rfl (lv_at hl 3 rfl) ?_
  refine lv_aload hx hb dX2_map_81 (lv_at hl 2 rfl) ?_
  refine lv_iload_n hx hb dX2_map_83 rfl (lv_at hl 5 rfl) ?_
  refine lv_iload hx hb dX2_map_84 (lv_at hl 0 rfl) ?_
  refine lv_iload_n hx hb dX2_map_86 rfl (lv_at hl 6 rfl) ?_
  refine lv_if_eq (tgt := 94) hx hb dX2_map_87 rfl (fun hh => absurd hh (h4)) (fun _ => ?_)
  refine lv_iconst (v := 3) hx hb dX2_map_90 (by decide) ?_
  refine lv_goto (tgt := 95) hx hb dX2_map_91 rfl ?_
  refine g_callV (As := [.ref (ad (5 + 3 * j)), .int (nI k), .int (nI (unF ct 24)), .int 3]) (rest := []) (fs := [.ref (ad 1), .ref (ad 2), .int af, .int cf]) (fm_startMapping hj hk (unF_lt ct 24 (by decide))) hx hb hml hown hts hN hG t_117 t_119 s_9 t_1 t_120 nm_X2_startMapping ⟨by decide, by decide⟩ fp_0 rfl hl.1 (Nat.le_of_ble_eq_true rfl) dX2_map_95 ⟨Nat.zero_le _, Nat.zero_le _⟩ (fun H locs hG => ?_)
  refine W.eq (g2 := F0 m 98 ls []) rfl ?_
  refine lv_iload hx hb dX2_map_98 (lv_at hl 1 rfl) ?_
  exact g_iret hx hb hr hlk hG dX2_map_100
set_option maxHeartbeats 4000000 in
set_option maxRecDepth 100000 in
theorem fp_map_p {j k : Nat} (hj : j < 5) (hk : k < 64) {z : Int32} (h : run j = true) (h2 : mp j k = false) (h3 : 1 + (nI (tbN (up1 (mp j) k true)) - nI (tbN (mp j))) ≤ frF run mp ct) (h4 : z = 0) : gM l yX2_map cX2_map 7 (some .int) 4 90 D cls (fpT cI cQ cZ) A (fpW ad cI cQ run mp fr kd wd ct af cf) [.ref (ad 0), .int (nI j), .int (nI k), .int z] (some (.int (1 + (nI (tbN (up1 (mp j) k true)) - nI (tbN (mp j)))))) (fpW ad cI cQ run (up1 mp j (up1 (mp j) k true)) (up1 fr j (up1 (fr j) k (unF ct 24))) (up1 kd j (upd (kd j) k 1)) (blW wd (unF ct 24)) (upd ct (unF ct 24) (ct (unF ct 24) + 1)) af cf) := by
  refine gM_of (by decide) (Nat.le_of_ble_eq_true rfl) ?_
  intro p e s m args below meth c ls hx hb hml hown hts hN hr hlk hl hG
  have hown : s.vm.findClass RX2 = some m.cls := hown
  have hl : lv_has ls 7 [(0, .ref (ad 0)), (1, .int (nI j)), (2, .int (nI k)), (3, .int z)] := hl
  refine lv_aload_n hx hb dX2_map_0 rfl (lv_at hl 0 rfl) ?_
  refine lv_iload_n hx hb dX2_map_1 rfl (lv_at hl 1 rfl) ?_
  refine g_callV (As := [.int (nI j)]) (rest := []) (fs := [.ref (ad 1), .ref (ad 2), .int af, .int cf]) (fm_isRunning_t hj h) hx hb hml hown hts hN hG t_97 t_99 s_4 t_1 t_100 nm_X2_isRunning ⟨by decide, by decide⟩ fp_0 rfl hl.1 (Nat.le_of_ble_eq_true rfl) dX2_map_2 ⟨Nat.zero_le _, Nat.zero_le _⟩ (fun H locs hG => ?_)
  refine W.eq (g2 := F0 m 5 ls [.int 1]) rfl ?_
  refine lv_if_ne (tgt := 10) hx hb dX2_map_5 rfl (fun _ => ?_) (fun hh => absurd hh (by decide))
  refine lv_iload_n hx hb dX2_map_10 rfl (lv_at hl 2 rfl) ?_
  refine g_callS (As := [.int (nI k)]) (rest := []) (fm_isPage_t hk) hx hb hml hown hts hN hG t_142 t_143 t_1 t_144 nm_X2_isPage ⟨by decide, by decide⟩ hl.1 (Nat.le_of_ble_eq_true rfl) dX2_map_11 ⟨Nat.zero_le _, Nat.zero_le _⟩ (fun H locs hG => ?_)
  refine W.eq (g2 := F0 m 14 ls [.int 1]) rfl ?_
  refine lv_if_ne (tgt := 20) hx hb dX2_map_14 rfl (fun _ => ?_) (fun hh => absurd hh (by decide))
  refine lv_aload_n hx hb dX2_map_20 rfl (lv_at hl 0 rfl) ?_
  refine g_get (k := 0) (v := .ref (ad 1)) (C := RX2) (ref := RX2) (fs := [.ref (ad 1), .ref (ad 2), .int af, .int cf]) hx hb hown hts hG gX2 rfl fp_0 (by decide) t_53 rfl rfl dX2_map_21 ?_
  refine lv_iload_n hx hb dX2_map_24 rfl (lv_at hl 1 rfl) ?_
  refine g_aald (i := j) (t0 := 1) hx hb hG fp_1 rfl (hj) (by decide) rfl dX2_map_25 ?_
  refine lv_astore (lv' := [(4, .ref (ad (5 + 3 * j))), (0, .ref (ad 0)), (1, .int (nI j)), (2, .int (nI k)), (3, .int z)]) hx hb dX2_map_26 hl (by decide) rfl (fun ls hl => ?_)
  refine lv_aload hx hb dX2_map_28 (lv_at hl 0 rfl) ?_
  refine lv_iload_n hx hb dX2_map_30 rfl (lv_at hl 3 rfl) ?_
  refine g_callVN (As := [.int (nI k)]) (rest := []) (fs := [.int (bI (run j)), .long (en (mp j)), .ref (ad (6 + 3 * j)), .ref (ad (7 + 3 * j))]) (fm_has_f hj hk h2) hx hb hml hown hts hN hG t_101 t_103 s_5 t_2 t_104 nm_X0_has ⟨by decide, by decide⟩ (fp_5 (hj)) rfl hl.1 (Nat.le_of_ble_eq_true rfl) dX2_map_31 ⟨Nat.zero_le _, Nat.zero_le _⟩ (fun H locs hG => ?_)
  refine W.eq (g2 := F0 m 34 ls [.int 0]) rfl ?_
  refine lv_if_eq (tgt := 40) hx hb dX2_map_34 rfl (fun _ => ?_) (fun hh => absurd (rfl) hh)
  refine lv_iconst (v := 1) hx hb dX2_map_40 (by decide) ?_
  refine lv_aload hx hb dX2_map_41 (lv_at hl 0 rfl) ?_
  refine lv_iload_n hx hb dX2_map_43 rfl (lv_at hl 3 rfl) ?_
  refine g_callVN (As := [.int (nI k)]) (rest := [.int 1]) (fs := [.int (bI (run j)), .long (en (mp j)), .ref (ad (6 + 3 * j)), .ref (ad (7 + 3 * j))]) (fm_tablesToAdd hj hk) hx hb hml hown hts hN hG t_145 t_147 s_13 t_2 t_148 nm_X0_tablesToAdd ⟨by decide, by decide⟩ (fp_5 (hj)) rfl hl.1 (Nat.le_of_ble_eq_true rfl) dX2_map_44 ⟨Nat.zero_le _, Nat.zero_le _⟩ (fun H locs hG => ?_)
  refine W.eq (g2 := F0 m 47 ls [.int (nI (tbN (up1 (mp j) k true)) - nI (tbN (mp j))), .int 1]) rfl ?_
  refine lv_iadd hx hb dX2_map_47 ?_
  refine lv_istore (lv' := [(5, .int (1 + (nI (tbN (up1 (mp j) k true)) - nI (tbN (mp j))))), (4, .ref (ad (5 + 3 * j))), (0, .ref (ad 0)), (1, .int (nI j)), (2, .int (nI k)), (3, .int z)]) hx hb dX2_map_48 hl (by decide) rfl (fun ls hl => ?_)
  refine lv_aload_n hx hb dX2_map_50 rfl (lv_at hl 2 rfl) ?_
  refine g_callV (As := []) (rest := []) (fs := [.ref (ad 1), .ref (ad 2), .int af, .int cf]) (fm_freeFrames) hx hb hml hown hts hN hG t_74 t_76 s_1 t_1 t_77 nm_X2_freeFrames ⟨by decide, by decide⟩ fp_0 rfl hl.1 (Nat.le_of_ble_eq_true rfl) dX2_map_51 ⟨Nat.zero_le _, Nat.zero_le _⟩ (fun H locs hG => ?_)
  refine W.eq (g2 := F0 m 54 ls [.int (frF run mp ct)]) rfl ?_
  refine lv_iload hx hb dX2_map_54 (lv_at hl 0 rfl) ?_
  refine lv_icmp_ge (tgt := 62) hx hb dX2_map_56 rfl (fun _ => ?_) (fun hh => absurd (h3) hh)
  refine lv_aload_n hx hb dX2_map_62 rfl (lv_at hl 2 rfl) ?_
  refine g_get (k := 1) (v := .ref (ad 2)) (C := RX2) (ref := RX2) (fs := [.ref (ad 1), .ref (ad 2), .int af, .int cf]) hx hb hown hts hG gX2 rfl fp_0 (by decide) t_54 rfl rfl dX2_map_63 ?_
  refine g_callVN (As := []) (rest := []) (fs := [.ref (ad 3), .ref (ad 4)]) (fm_unusedFrame) hx hb hml hown hts hN hG t_149 t_151 s_14 t_3 t_152 nm_X1_unusedFrame ⟨by decide, by decide⟩ fp_2 rfl hl.1 (Nat.le_of_ble_eq_true rfl) dX2_map_66 ⟨Nat.zero_le _, Nat.zero_le _⟩ (fun H locs hG => ?_)
  refine W.eq (g2 := F0 m 69 ls [.int (nI (unF ct 24))]) rfl ?_
  refine lv_istore (lv' := [(6, .int (nI (unF ct 24))), (5, .int (1 + (nI (tbN (up1 (mp j) k true)) - nI (tbN (mp j))))), (4, .ref (ad (5 + 3 * j))), (0, .ref (ad 0)), (1, .int (nI j)), (2, .int (nI k)), (3, .int z)]) hx hb dX2_map_69 hl (by decide) rfl (fun ls hl => ?_)
  refine lv_aload_n hx hb dX2_map_71 rfl (lv_at hl 3 rfl) ?_
  refine g_get (k := 1) (v := .ref (ad 2)) (C := RX2) (ref := RX2) (fs := [.ref (ad 1), .ref (ad 2), .int af, .int cf]) hx hb hown hts hG gX2 rfl fp_0 (by decide) t_54 rfl rfl dX2_map_72 ?_
  refine lv_iload hx hb dX2_map_75 (lv_at hl 0 rfl) ?_
  refine g_callVN (As := [.int (nI (unF ct 24))]) (rest := []) (fs := [.ref (ad 3), .ref (ad 4)]) (fm_blank (unF_lt ct 24 (by decide))) hx hb hml hown hts hN hG t_153 t_155 s_15 t_3 t_156 nm_X1_blank ⟨by decide, by decide⟩ fp_2 rfl hl.1 (Nat.le_of_ble_eq_true rfl) dX2_map_77 ⟨Nat.zero_le _, Nat.zero_le _⟩ (fun H locs hG => ?_)
  refine W.eq (g2 := F0 m 80 ls []) rfl ?_
  refine lv_aload_n hx hb dX2_map_80 rfl (lv_at hl 3 rfl) ?_
  refine lv_aload hx hb dX2_map_81 (lv_at hl 2 rfl) ?_
  refine lv_iload_n hx hb dX2_map_83 rfl (lv_at hl 5 rfl) ?_
  refine lv_iload hx hb dX2_map_84 (lv_at hl 0 rfl) ?_
  refine lv_iload_n hx hb dX2_map_86 rfl (lv_at hl 6 rfl) ?_
  refine lv_if_eq (tgt := 94) hx hb dX2_map_87 rfl (fun _ => ?_) (fun hh => absurd (h4) hh)
  refine lv_iconst (v := 1) hx hb dX2_map_94 (by decide) ?_
  refine g_callV (As := [.ref (ad (5 + 3 * j)), .int (nI k), .int (nI (unF ct 24)), .int 1]) (rest := []) (fs := [.ref (ad 1), .ref (ad 2), .int af, .int cf]) (fm_startMapping hj hk (unF_lt ct 24 (by decide))) hx hb hml hown hts hN hG t_117 t_119 s_9 t_1 t_120 nm_X2_startMapping ⟨by decide, by decide⟩ fp_0 rfl hl.1 (Nat.le_of_ble_eq_true rfl) dX2_map_95 ⟨Nat.zero_le _, Nat.zero_le _⟩ (fun H locs hG => ?_)
  refine W.eq (g2 := F0 m 98 ls []) rfl ?_
  refine lv_iload hx hb dX2_map_98 (lv_at hl 1 rfl) ?_
  exact g_iret hx hb hr hlk hG dX2_map_100
set_option maxHeartbeats 4000000 in
set_option maxRecDepth 100000 in
theorem fp_attach_1a {x y u v : Int32} (h : ¬ rn run x) : gM l yX2_attach cX2_attach 9 (some .int) 4 90 D cls (fpT cI cQ cZ) A (fpW ad cI cQ run mp fr kd wd ct af cf) [.ref (ad 0), .int x, .int y, .int u, .int v] (some (.int (-1))) (fpW ad cI cQ run mp fr kd wd ct af cf) := by
  refine gM_of (by decide) (Nat.le_of_ble_eq_true rfl) ?_
  intro p e s m args below meth c ls hx hb hml hown hts hN hr hlk hl hG
  have hown : s.vm.findClass RX2 = some m.cls := hown
  have hl : lv_has ls 9 [(0, .ref (ad 0)), (1, .int x), (2, .int y), (3, .int u), (4, .int v)] := hl
  refine lv_aload_n hx hb dX2_attach_0 rfl (lv_at hl 0 rfl) ?_
  refine lv_iload_n hx hb dX2_attach_1 rfl (lv_at hl 1 rfl) ?_
  refine g_callV (As := [.int x]) (rest := []) (fs := [.ref (ad 1), .ref (ad 2), .int af, .int cf]) (fm_isRunning_n h) hx hb hml hown hts hN hG t_97 t_99 s_4 t_1 t_100 nm_X2_isRunning ⟨by decide, by decide⟩ fp_0 rfl hl.1 (Nat.le_of_ble_eq_true rfl) dX2_attach_2 ⟨Nat.zero_le _, Nat.zero_le _⟩ (fun H locs hG => ?_)
  refine W.eq (g2 := F0 m 5 ls [.int 0]) rfl ?_
  refine lv_if_eq (tgt := 16) hx hb dX2_attach_5 rfl (fun _ => ?_) (fun hh => absurd (rfl) hh)
  refine lv_iconst (v := (-1)) hx hb dX2_attach_16 (by decide) ?_
  exact g_iret hx hb hr hlk hG dX2_attach_17
set_option maxHeartbeats 4000000 in
set_option maxRecDepth 100000 in
theorem fp_attach_1b {j : Nat} {y u v : Int32} (hj : j < 5) (h : run j = true) (h2 : ¬ rn run u) : gM l yX2_attach cX2_attach 9 (some .int) 4 90 D cls (fpT cI cQ cZ) A (fpW ad cI cQ run mp fr kd wd ct af cf) [.ref (ad 0), .int (nI j), .int y, .int u, .int v] (some (.int (-1))) (fpW ad cI cQ run mp fr kd wd ct af cf) := by
  refine gM_of (by decide) (Nat.le_of_ble_eq_true rfl) ?_
  intro p e s m args below meth c ls hx hb hml hown hts hN hr hlk hl hG
  have hown : s.vm.findClass RX2 = some m.cls := hown
  have hl : lv_has ls 9 [(0, .ref (ad 0)), (1, .int (nI j)), (2, .int y), (3, .int u), (4, .int v)] := hl
  refine lv_aload_n hx hb dX2_attach_0 rfl (lv_at hl 0 rfl) ?_
  refine lv_iload_n hx hb dX2_attach_1 rfl (lv_at hl 1 rfl) ?_
  refine g_callV (As := [.int (nI j)]) (rest := []) (fs := [.ref (ad 1), .ref (ad 2), .int af, .int cf]) (fm_isRunning_t hj h) hx hb hml hown hts hN hG t_97 t_99 s_4 t_1 t_100 nm_X2_isRunning ⟨by decide, by decide⟩ fp_0 rfl hl.1 (Nat.le_of_ble_eq_true rfl) dX2_attach_2 ⟨Nat.zero_le _, Nat.zero_le _⟩ (fun H locs hG => ?_)
  refine W.eq (g2 := F0 m 5 ls [.int 1]) rfl ?_
  refine lv_if_eq (tgt := 16) hx hb dX2_attach_5 rfl (fun hh => absurd hh (by decide)) (fun _ => ?_)
  refine lv_aload_n hx hb dX2_attach_8 rfl (lv_at hl 0 rfl) ?_
  refine lv_iload_n hx hb dX2_attach_9 rfl (lv_at hl 3 rfl) ?_
  refine g_callV (As := [.int u]) (rest := []) (fs := [.ref (ad 1), .ref (ad 2), .int af, .int cf]) (fm_isRunning_n h2) hx hb hml hown hts hN hG t_97 t_99 s_4 t_1 t_100 nm_X2_isRunning ⟨by decide, by decide⟩ fp_0 rfl hl.1 (Nat.le_of_ble_eq_true rfl) dX2_attach_10 ⟨Nat.zero_le _, Nat.zero_le _⟩ (fun H locs hG => ?_)
  refine W.eq (g2 := F0 m 13 ls [.int 0]) rfl ?_
  refine lv_if_ne (tgt := 18) hx hb dX2_attach_13 rfl (fun hh => absurd (rfl) hh) (fun _ => ?_)
  refine lv_iconst (v := (-1)) hx hb dX2_attach_16 (by decide) ?_
  exact g_iret hx hb hr hlk hG dX2_attach_17
set_option maxHeartbeats 4000000 in
set_option maxRecDepth 100000 in
theorem fp_attach_2a {j n : Nat} (hj : j < 5) (h : run j = true) (hn : n < 5) (h2 : run n = true) {y v : Int32} (h3 : ¬ pgI y) : gM l yX2_attach cX2_attach 9 (some .int) 4 90 D cls (fpT cI cQ cZ) A (fpW ad cI cQ run mp fr kd wd ct af cf) [.ref (ad 0), .int (nI j), .int y, .int (nI n), .int v] (some (.int (-2))) (fpW ad cI cQ run mp fr kd wd ct af cf) := by
  refine gM_of (by decide) (Nat.le_of_ble_eq_true rfl) ?_
  intro p e s m args below meth c ls hx hb hml hown hts hN hr hlk hl hG
  have hown : s.vm.findClass RX2 = some m.cls := hown
  have hl : lv_has ls 9 [(0, .ref (ad 0)), (1, .int (nI j)), (2, .int y), (3, .int (nI n)), (4, .int v)] := hl
  refine lv_aload_n hx hb dX2_attach_0 rfl (lv_at hl 0 rfl) ?_
  refine lv_iload_n hx hb dX2_attach_1 rfl (lv_at hl 1 rfl) ?_
  refine g_callV (As := [.int (nI j)]) (rest := []) (fs := [.ref (ad 1), .ref (ad 2), .int af, .int cf]) (fm_isRunning_t hj h) hx hb hml hown hts hN hG t_97 t_99 s_4 t_1 t_100 nm_X2_isRunning ⟨by decide, by decide⟩ fp_0 rfl hl.1 (Nat.le_of_ble_eq_true rfl) dX2_attach_2 ⟨Nat.zero_le _, Nat.zero_le _⟩ (fun H locs hG => ?_)
  refine W.eq (g2 := F0 m 5 ls [.int 1]) rfl ?_
  refine lv_if_eq (tgt := 16) hx hb dX2_attach_5 rfl (fun hh => absurd hh (by decide)) (fun _ => ?_)
  refine lv_aload_n hx hb dX2_attach_8 rfl (lv_at hl 0 rfl) ?_
  refine lv_iload_n hx hb dX2_attach_9 rfl (lv_at hl 3 rfl) ?_
  refine g_callV (As := [.int (nI n)]) (rest := []) (fs := [.ref (ad 1), .ref (ad 2), .int af, .int cf]) (fm_isRunning_t hn h2) hx hb hml hown hts hN hG t_97 t_99 s_4 t_1 t_100 nm_X2_isRunning ⟨by decide, by decide⟩ fp_0 rfl hl.1 (Nat.le_of_ble_eq_true rfl) dX2_attach_10 ⟨Nat.zero_le _, Nat.zero_le _⟩ (fun H locs hG => ?_)
  refine W.eq (g2 := F0 m 13 ls [.int 1]) rfl ?_
  refine lv_if_ne (tgt := 18) hx hb dX2_attach_13 rfl (fun _ => ?_) (fun hh => absurd hh (by decide))
  refine lv_iload_n hx hb dX2_attach_18 rfl (lv_at hl 2 rfl) ?_
  refine g_callS (As := [.int y]) (rest := []) (fm_isPage_n h3) hx hb hml hown hts hN hG t_142 t_143 t_1 t_144 nm_X2_isPage ⟨by decide, by decide⟩ hl.1 (Nat.le_of_ble_eq_true rfl) dX2_attach_19 ⟨Nat.zero_le _, Nat.zero_le _⟩ (fun H locs hG => ?_)
  refine W.eq (g2 := F0 m 22 ls [.int 0]) rfl ?_
  refine lv_if_eq (tgt := 33) hx hb dX2_attach_22 rfl (fun _ => ?_) (fun hh => absurd (rfl) hh)
  refine lv_bipush (v := (-2)) hx hb dX2_attach_33 (by decide) ?_
  exact g_iret hx hb hr hlk hG dX2_attach_35
set_option maxHeartbeats 4000000 in
set_option maxRecDepth 100000 in
theorem fp_attach_2b {j n : Nat} (hj : j < 5) (h : run j = true) (hn : n < 5) (h2 : run n = true) {k : Nat} {v : Int32} (hk : k < 64) (h3 : ¬ pgI v) : gM l yX2_attach cX2_attach 9 (some .int) 4 90 D cls (fpT cI cQ cZ) A (fpW ad cI cQ run mp fr kd wd ct af cf) [.ref (ad 0), .int (nI j), .int (nI k), .int (nI n), .int v] (some (.int (-2))) (fpW ad cI cQ run mp fr kd wd ct af cf) := by
  refine gM_of (by decide) (Nat.le_of_ble_eq_true rfl) ?_
  intro p e s m args below meth c ls hx hb hml hown hts hN hr hlk hl hG
  have hown : s.vm.findClass RX2 = some m.cls := hown
  have hl : lv_has ls 9 [(0, .ref (ad 0)), (1, .int (nI j)), (2, .int (nI k)), (3, .int (nI n)), (4, .int v)] := hl
  refine lv_aload_n hx hb dX2_attach_0 rfl (lv_at hl 0 rfl) ?_
  refine lv_iload_n hx hb dX2_attach_1 rfl (lv_at hl 1 rfl) ?_
  refine g_callV (As := [.int (nI j)]) (rest := []) (fs := [.ref (ad 1), .ref (ad 2), .int af, .int cf]) (fm_isRunning_t hj h) hx hb hml hown hts hN hG t_97 t_99 s_4 t_1 t_100 nm_X2_isRunning ⟨by decide, by decide⟩ fp_0 rfl hl.1 (Nat.le_of_ble_eq_true rfl) dX2_attach_2 ⟨Nat.zero_le _, Nat.zero_le _⟩ (fun H locs hG => ?_)
  refine W.eq (g2 := F0 m 5 ls [.int 1]) rfl ?_
  refine lv_if_eq (tgt := 16) hx hb dX2_attach_5 rfl (fun hh => absurd hh (by decide)) (fun _ => ?_)
  refine lv_aload_n hx hb dX2_attach_8 rfl (lv_at hl 0 rfl) ?_
  refine lv_iload_n hx hb dX2_attach_9 rfl (lv_at hl 3 rfl) ?_
  refine g_callV (As := [.int (nI n)]) (rest := []) (fs := [.ref (ad 1), .ref (ad 2), .int af, .int cf]) (fm_isRunning_t hn h2) hx hb hml hown hts hN hG t_97 t_99 s_4 t_1 t_100 nm_X2_isRunning ⟨by decide, by decide⟩ fp_0 rfl hl.1 (Nat.le_of_ble_eq_true rfl) dX2_attach_10 ⟨Nat.zero_le _, Nat.zero_le _⟩ (fun H locs hG => ?_)
  refine W.eq (g2 := F0 m 13 ls [.int 1]) rfl ?_
  refine lv_if_ne (tgt := 18) hx hb dX2_attach_13 rfl (fun _ => ?_) (fun hh => absurd hh (by decide))
  refine lv_iload_n hx hb dX2_attach_18 rfl (lv_at hl 2 rfl) ?_
  refine g_callS (As := [.int (nI k)]) (rest := []) (fm_isPage_t hk) hx hb hml hown hts hN hG t_142 t_143 t_1 t_144 nm_X2_isPage ⟨by decide, by decide⟩ hl.1 (Nat.le_of_ble_eq_true rfl) dX2_attach_19 ⟨Nat.zero_le _, Nat.zero_le _⟩ (fun H locs hG => ?_)
  refine W.eq (g2 := F0 m 22 ls [.int 1]) rfl ?_
  refine lv_if_eq (tgt := 33) hx hb dX2_attach_22 rfl (fun hh => absurd hh (by decide)) (fun _ => ?_)
  refine lv_iload hx hb dX2_attach_25 (lv_at hl 4 rfl) ?_
  refine g_callS (As := [.int v]) (rest := []) (fm_isPage_n h3) hx hb hml hown hts hN hG t_142 t_143 t_1 t_144 nm_X2_isPage ⟨by decide, by decide⟩ hl.1 (Nat.le_of_ble_eq_true rfl) dX2_attach_27 ⟨Nat.zero_le _, Nat.zero_le _⟩ (fun H locs hG => ?_)
  refine W.eq (g2 := F0 m 30 ls [.int 0]) rfl ?_
  refine lv_if_ne (tgt := 36) hx hb dX2_attach_30 rfl (fun hh => absurd (rfl) hh) (fun _ => ?_)
  refine lv_bipush (v := (-2)) hx hb dX2_attach_33 (by decide) ?_
  exact g_iret hx hb hr hlk hG dX2_attach_35
set_option maxHeartbeats 4000000 in
set_option maxRecDepth 100000 in
theorem fp_attach_3 {j n : Nat} (hj : j < 5) (h : run j = true) (hn : n < 5) (h2 : run n = true) {k i : Nat} (hk : k < 64) (hi : i < 64) (h3 : mp n i = false) : gM l yX2_attach cX2_attach 9 (some .int) 4 90 D cls (fpT cI cQ cZ) A (fpW ad cI cQ run mp fr kd wd ct af cf) [.ref (ad 0), .int (nI j), .int (nI k), .int (nI n), .int (nI i)] (some (.int (-3))) (fpW ad cI cQ run mp fr kd wd ct af cf) := by
  refine gM_of (by decide) (Nat.le_of_ble_eq_true rfl) ?_
  intro p e s m args below meth c ls hx hb hml hown hts hN hr hlk hl hG
  have hown : s.vm.findClass RX2 = some m.cls := hown
  have hl : lv_has ls 9 [(0, .ref (ad 0)), (1, .int (nI j)), (2, .int (nI k)), (3, .int (nI n)), (4, .int (nI i))] := hl
  refine lv_aload_n hx hb dX2_attach_0 rfl (lv_at hl 0 rfl) ?_
  refine lv_iload_n hx hb dX2_attach_1 rfl (lv_at hl 1 rfl) ?_
  refine g_callV (As := [.int (nI j)]) (rest := []) (fs := [.ref (ad 1), .ref (ad 2), .int af, .int cf]) (fm_isRunning_t hj h) hx hb hml hown hts hN hG t_97 t_99 s_4 t_1 t_100 nm_X2_isRunning ⟨by decide, by decide⟩ fp_0 rfl hl.1 (Nat.le_of_ble_eq_true rfl) dX2_attach_2 ⟨Nat.zero_le _, Nat.zero_le _⟩ (fun H locs hG => ?_)
  refine W.eq (g2 := F0 m 5 ls [.int 1]) rfl ?_
  refine lv_if_eq (tgt := 16) hx hb dX2_attach_5 rfl (fun hh => absurd hh (by decide)) (fun _ => ?_)
  refine lv_aload_n hx hb dX2_attach_8 rfl (lv_at hl 0 rfl) ?_
  refine lv_iload_n hx hb dX2_attach_9 rfl (lv_at hl 3 rfl) ?_
  refine g_callV (As := [.int (nI n)]) (rest := []) (fs := [.ref (ad 1), .ref (ad 2), .int af, .int cf]) (fm_isRunning_t hn h2) hx hb hml hown hts hN hG t_97 t_99 s_4 t_1 t_100 nm_X2_isRunning ⟨by decide, by decide⟩ fp_0 rfl hl.1 (Nat.le_of_ble_eq_true rfl) dX2_attach_10 ⟨Nat.zero_le _, Nat.zero_le _⟩ (fun H locs hG => ?_)
  refine W.eq (g2 := F0 m 13 ls [.int 1]) rfl ?_
  refine lv_if_ne (tgt := 18) hx hb dX2_attach_13 rfl (fun _ => ?_) (fun hh => absurd hh (by decide))
  refine lv_iload_n hx hb dX2_attach_18 rfl (lv_at hl 2 rfl) ?_
  refine g_callS (As := [.int (nI k)]) (rest := []) (fm_isPage_t hk) hx hb hml hown hts hN hG t_142 t_143 t_1 t_144 nm_X2_isPage ⟨by decide, by decide⟩ hl.1 (Nat.le_of_ble_eq_true rfl) dX2_attach_19 ⟨Nat.zero_le _, Nat.zero_le _⟩ (fun H locs hG => ?_)
  refine W.eq (g2 := F0 m 22 ls [.int 1]) rfl ?_
  refine lv_if_eq (tgt := 33) hx hb dX2_attach_22 rfl (fun hh => absurd hh (by decide)) (fun _ => ?_)
  refine lv_iload hx hb dX2_attach_25 (lv_at hl 4 rfl) ?_
  refine g_callS (As := [.int (nI i)]) (rest := []) (fm_isPage_t hi) hx hb hml hown hts hN hG t_142 t_143 t_1 t_144 nm_X2_isPage ⟨by decide, by decide⟩ hl.1 (Nat.le_of_ble_eq_true rfl) dX2_attach_27 ⟨Nat.zero_le _, Nat.zero_le _⟩ (fun H locs hG => ?_)
  refine W.eq (g2 := F0 m 30 ls [.int 1]) rfl ?_
  refine lv_if_ne (tgt := 36) hx hb dX2_attach_30 rfl (fun _ => ?_) (fun hh => absurd hh (by decide))
  refine lv_aload_n hx hb dX2_attach_36 rfl (lv_at hl 0 rfl) ?_
  refine g_get (k := 0) (v := .ref (ad 1)) (C := RX2) (ref := RX2) (fs := [.ref (ad 1), .ref (ad 2), .int af, .int cf]) hx hb hown hts hG gX2 rfl fp_0 (by decide) t_53 rfl rfl dX2_attach_37 ?_
  refine lv_iload_n hx hb dX2_attach_40 rfl (lv_at hl 1 rfl) ?_
  refine g_aald (i := j) (t0 := 1) hx hb hG fp_1 rfl (hj) (by decide) rfl dX2_attach_41 ?_
  refine lv_astore (lv' := [(5, .ref (ad (5 + 3 * j))), (0, .ref (ad 0)), (1, .int (nI j)), (2, .int (nI k)), (3, .int (nI n)), (4, .int (nI i))]) hx hb dX2_attach_42 hl (by decide) rfl (fun ls hl => ?_)
  refine lv_aload_n hx hb dX2_attach_44 rfl (lv_at hl 1 rfl) ?_
  refine g_get (k := 0) (v := .ref (ad 1)) (C := RX2) (ref := RX2) (fs := [.ref (ad 1), .ref (ad 2), .int af, .int cf]) hx hb hown hts hG gX2 rfl fp_0 (by decide) t_53 rfl rfl dX2_attach_45 ?_
  refine lv_iload_n hx hb dX2_attach_48 rfl (lv_at hl 4 rfl) ?_
  refine g_aald (i := n) (t0 := 1) hx hb hG fp_1 rfl (hn) (by decide) rfl dX2_attach_49 ?_
  refine lv_astore (lv' := [(6, .ref (ad (5 + 3 * n))), (5, .ref (ad (5 + 3 * j))), (0, .ref (ad 0)), (1, .int (nI j)), (2, .int (nI k)), (3, .int (nI n)), (4, .int (nI i))]) hx hb dX2_attach_50 hl (by decide) rfl (fun ls hl => ?_)
  refine lv_aload hx hb dX2_attach_52 (lv_at hl 0 rfl) ?_
  refine lv_iload hx hb dX2_attach_54 (lv_at hl 6 rfl) ?_
  refine g_callVN (As := [.int (nI i)]) (rest := []) (fs := [.int (bI (run n)), .long (en (mp n)), .ref (ad (6 + 3 * n)), .ref (ad (7 + 3 * n))]) (fm_has_f hn hi h3) hx hb hml hown hts hN hG t_101 t_103 s_5 t_2 t_104 nm_X0_has ⟨by decide, by decide⟩ (fp_5 (hn)) rfl hl.1 (Nat.le_of_ble_eq_true rfl) dX2_attach_56 ⟨Nat.zero_le _, Nat.zero_le _⟩ (fun H locs hG => ?_)
  refine W.eq (g2 := F0 m 59 ls [.int 0]) rfl ?_
  refine lv_if_ne (tgt := 65) hx hb dX2_attach_59 rfl (fun hh => absurd (rfl) hh) (fun _ => ?_)
  refine lv_bipush (v := (-3)) hx hb dX2_attach_62 (by decide) ?_
  exact g_iret hx hb hr hlk hG dX2_attach_64
set_option maxHeartbeats 4000000 in
set_option maxRecDepth 100000 in
theorem fp_attach_4 {j n : Nat} (hj : j < 5) (h : run j = true) (hn : n < 5) (h2 : run n = true) {k i : Nat} (hk : k < 64) (hi : i < 64) (h3 : mp n i = true) (h4 : mp j k = true) : gM l yX2_attach cX2_attach 9 (some .int) 4 90 D cls (fpT cI cQ cZ) A (fpW ad cI cQ run mp fr kd wd ct af cf) [.ref (ad 0), .int (nI j), .int (nI k), .int (nI n), .int (nI i)] (some (.int (-4))) (fpW ad cI cQ run mp fr kd wd ct af cf) := by
  refine gM_of (by decide) (Nat.le_of_ble_eq_true rfl) ?_
  intro p e s m args below meth c ls hx hb hml hown hts hN hr hlk hl hG
  have hown : s.vm.findClass RX2 = some m.cls := hown
  have hl : lv_has ls 9 [(0, .ref (ad 0)), (1, .int (nI j)), (2, .int (nI k)), (3, .int (nI n)), (4, .int (nI i))] := hl
  refine lv_aload_n hx hb dX2_attach_0 rfl (lv_at hl 0 rfl) ?_
  refine lv_iload_n hx hb dX2_attach_1 rfl (lv_at hl 1 rfl) ?_
  refine g_callV (As := [.int (nI j)]) (rest := []) (fs := [.ref (ad 1), .ref (ad 2), .int af, .int cf]) (fm_isRunning_t hj h) hx hb hml hown hts hN hG t_97 t_99 s_4 t_1 t_100 nm_X2_isRunning ⟨by decide, by decide⟩ fp_0 rfl hl.1 (Nat.le_of_ble_eq_true rfl) dX2_attach_2 ⟨Nat.zero_le _, Nat.zero_le _⟩ (fun H locs hG => ?_)
  refine W.eq (g2 := F0 m 5 ls [.int 1]) rfl ?_
  refine lv_if_eq (tgt := 16) hx hb dX2_attach_5 rfl (fun hh => absurd hh (by decide)) (fun _ => ?_)
  refine lv_aload_n hx hb dX2_attach_8 rfl (lv_at hl 0 rfl) ?_
  refine lv_iload_n hx hb dX2_attach_9 rfl (lv_at hl 3 rfl) ?_
  refine g_callV (As := [.int (nI n)]) (rest := []) (fs := [.ref (ad 1), .ref (ad 2), .int af, .int cf]) (fm_isRunning_t hn h2) hx hb hml hown hts hN hG t_97 t_99 s_4 t_1 t_100 nm_X2_isRunning ⟨by decide, by decide⟩ fp_0 rfl hl.1 (Nat.le_of_ble_eq_true rfl) dX2_attach_10 ⟨Nat.zero_le _, Nat.zero_le _⟩ (fun H locs hG => ?_)
  refine W.eq (g2 := F0 m 13 ls [.int 1]) rfl ?_
  refine lv_if_ne (tgt := 18) hx hb dX2_attach_13 rfl (fun _ => ?_) (fun hh => absurd hh (by decide))
  refine lv_iload_n hx hb dX2_attach_18 rfl (lv_at hl 2 rfl) ?_
  refine g_callS (As := [.int (nI k)]) (rest := []) (fm_isPage_t hk) hx hb hml hown hts hN hG t_142 t_143 t_1 t_144 nm_X2_isPage ⟨by decide, by decide⟩ hl.1 (Nat.le_of_ble_eq_true rfl) dX2_attach_19 ⟨Nat.zero_le _, Nat.zero_le _⟩ (fun H locs hG => ?_)
  refine W.eq (g2 := F0 m 22 ls [.int 1]) rfl ?_
  refine lv_if_eq (tgt := 33) hx hb dX2_attach_22 rfl (fun hh => absurd hh (by decide)) (fun _ => ?_)
  refine lv_iload hx hb dX2_attach_25 (lv_at hl 4 rfl) ?_
  refine g_callS (As := [.int (nI i)]) (rest := []) (fm_isPage_t hi) hx hb hml hown hts hN hG t_142 t_143 t_1 t_144 nm_X2_isPage ⟨by decide, by decide⟩ hl.1 (Nat.le_of_ble_eq_true rfl) dX2_attach_27 ⟨Nat.zero_le _, Nat.zero_le _⟩ (fun H locs hG => ?_)
  refine W.eq (g2 := F0 m 30 ls [.int 1]) rfl ?_
  refine lv_if_ne (tgt := 36) hx hb dX2_attach_30 rfl (fun _ => ?_) (fun hh => absurd hh (by decide))
  refine lv_aload_n hx hb dX2_attach_36 rfl (lv_at hl 0 rfl) ?_
  refine g_get (k := 0) (v := .ref (ad 1)) (C := RX2) (ref := RX2) (fs := [.ref (ad 1), .ref (ad 2), .int af, .int cf]) hx hb hown hts hG gX2 rfl fp_0 (by decide) t_53 rfl rfl dX2_attach_37 ?_
  refine lv_iload_n hx hb dX2_attach_40 rfl (lv_at hl 1 rfl) ?_
  refine g_aald (i := j) (t0 := 1) hx hb hG fp_1 rfl (hj) (by decide) rfl dX2_attach_41 ?_
  refine lv_astore (lv' := [(5, .ref (ad (5 + 3 * j))), (0, .ref (ad 0)), (1, .int (nI j)), (2, .int (nI k)), (3, .int (nI n)), (4, .int (nI i))]) hx hb dX2_attach_42 hl (by decide) rfl (fun ls hl => ?_)
  refine lv_aload_n hx hb dX2_attach_44 rfl (lv_at hl 1 rfl) ?_
  refine g_get (k := 0) (v := .ref (ad 1)) (C := RX2) (ref := RX2) (fs := [.ref (ad 1), .ref (ad 2), .int af, .int cf]) hx hb hown hts hG gX2 rfl fp_0 (by decide) t_53 rfl rfl dX2_attach_45 ?_
  refine lv_iload_n hx hb dX2_attach_48 rfl (lv_at hl 4 rfl) ?_
  refine g_aald (i := n) (t0 := 1) hx hb hG fp_1 rfl (hn) (by decide) rfl dX2_attach_49 ?_
  refine lv_astore (lv' := [(6, .ref (ad (5 + 3 * n))), (5, .ref (ad (5 + 3 * j))), (0, .ref (ad 0)), (1, .int (nI j)), (2, .int (nI k)), (3, .int (nI n)), (4, .int (nI i))]) hx hb dX2_attach_50 hl (by decide) rfl (fun ls hl => ?_)
  refine lv_aload hx hb dX2_attach_52 (lv_at hl 0 rfl) ?_
  refine lv_iload hx hb dX2_attach_54 (lv_at hl 6 rfl) ?_
  refine g_callVN (As := [.int (nI i)]) (rest := []) (fs := [.int (bI (run n)), .long (en (mp n)), .ref (ad (6 + 3 * n)), .ref (ad (7 + 3 * n))]) (fm_has_t hn hi h3) hx hb hml hown hts hN hG t_101 t_103 s_5 t_2 t_104 nm_X0_has ⟨by decide, by decide⟩ (fp_5 (hn)) rfl hl.1 (Nat.le_of_ble_eq_true rfl) dX2_attach_56 ⟨Nat.zero_le _, Nat.zero_le _⟩ (fun H locs hG => ?_)
  refine W.eq (g2 := F0 m 59 ls [.int 1]) rfl ?_
  refine lv_if_ne (tgt := 65) hx hb dX2_attach_59 rfl (fun _ => ?_) (fun hh => absurd hh (by decide))
  refine lv_aload hx hb dX2_attach_65 (lv_at hl 1 rfl) ?_
  refine lv_iload_n hx hb dX2_attach_67 rfl (lv_at hl 4 rfl) ?_
  refine g_callVN (As := [.int (nI k)]) (rest := []) (fs := [.int (bI (run j)), .long (en (mp j)), .ref (ad (6 + 3 * j)), .ref (ad (7 + 3 * j))]) (fm_has_t hj hk h4) hx hb hml hown hts hN hG t_101 t_103 s_5 t_2 t_104 nm_X0_has ⟨by decide, by decide⟩ (fp_5 (hj)) rfl hl.1 (Nat.le_of_ble_eq_true rfl) dX2_attach_68 ⟨Nat.zero_le _, Nat.zero_le _⟩ (fun H locs hG => ?_)
  refine W.eq (g2 := F0 m 71 ls [.int 1]) rfl ?_
  refine lv_if_eq (tgt := 77) hx hb dX2_attach_71 rfl (fun hh => absurd hh (by decide)) (fun _ => ?_)
  refine lv_bipush (v := (-4)) hx hb dX2_attach_74 (by decide) ?_
  exact g_iret hx hb hr hlk hG dX2_attach_76
set_option maxHeartbeats 4000000 in
set_option maxRecDepth 100000 in
theorem fp_attach_6 {j n : Nat} (hj : j < 5) (h : run j = true) (hn : n < 5) (h2 : run n = true) {k i : Nat} (hk : k < 64) (hi : i < 64) (h3 : mp n i = true) (h4 : mp j k = false) (h5 : kd n i &&& 2 = 0) : gM l yX2_attach cX2_attach 9 (some .int) 4 90 D cls (fpT cI cQ cZ) A (fpW ad cI cQ run mp fr kd wd ct af cf) [.ref (ad 0), .int (nI j), .int (nI k), .int (nI n), .int (nI i)] (some (.int (-6))) (fpW ad cI cQ run mp fr kd wd ct af cf) := by
  refine gM_of (by decide) (Nat.le_of_ble_eq_true rfl) ?_
  intro p e s m args below meth c ls hx hb hml hown hts hN hr hlk hl hG
  have hown : s.vm.findClass RX2 = some m.cls := hown
  have hl : lv_has ls 9 [(0, .ref (ad 0)), (1, .int (nI j)), (2, .int (nI k)), (3, .int (nI n)), (4, .int (nI i))] := hl
  refine lv_aload_n hx hb dX2_attach_0 rfl (lv_at hl 0 rfl) ?_
  refine lv_iload_n hx hb dX2_attach_1 rfl (lv_at hl 1 rfl) ?_
  refine g_callV (As := [.int (nI j)]) (rest := []) (fs := [.ref (ad 1), .ref (ad 2), .int af, .int cf]) (fm_isRunning_t hj h) hx hb hml hown hts hN hG t_97 t_99 s_4 t_1 t_100 nm_X2_isRunning ⟨by decide, by decide⟩ fp_0 rfl hl.1 (Nat.le_of_ble_eq_true rfl) dX2_attach_2 ⟨Nat.zero_le _, Nat.zero_le _⟩ (fun H locs hG => ?_)
  refine W.eq (g2 := F0 m 5 ls [.int 1]) rfl ?_
  refine lv_if_eq (tgt := 16) hx hb dX2_attach_5 rfl (fun hh => absurd hh (by decide)) (fun _ => ?_)
  refine lv_aload_n hx hb dX2_attach_8 rfl (lv_at hl 0 rfl) ?_
  refine lv_iload_n hx hb dX2_attach_9 rfl (lv_at hl 3 rfl) ?_
  refine g_callV (As := [.int (nI n)]) (rest := []) (fs := [.ref (ad 1), .ref (ad 2), .int af, .int cf]) (fm_isRunning_t hn h2) hx hb hml hown hts hN hG t_97 t_99 s_4 t_1 t_100 nm_X2_isRunning ⟨by decide, by decide⟩ fp_0 rfl hl.1 (Nat.le_of_ble_eq_true rfl) dX2_attach_10 ⟨Nat.zero_le _, Nat.zero_le _⟩ (fun H locs hG => ?_)
  refine W.eq (g2 := F0 m 13 ls [.int 1]) rfl ?_
  refine lv_if_ne (tgt := 18) hx hb dX2_attach_13 rfl (fun _ => ?_) (fun hh => absurd hh (by decide))
  refine lv_iload_n hx hb dX2_attach_18 rfl (lv_at hl 2 rfl) ?_
  refine g_callS (As := [.int (nI k)]) (rest := []) (fm_isPage_t hk) hx hb hml hown hts hN hG t_142 t_143 t_1 t_144 nm_X2_isPage ⟨by decide, by decide⟩ hl.1 (Nat.le_of_ble_eq_true rfl) dX2_attach_19 ⟨Nat.zero_le _, Nat.zero_le _⟩ (fun H locs hG => ?_)
  refine W.eq (g2 := F0 m 22 ls [.int 1]) rfl ?_
  refine lv_if_eq (tgt := 33) hx hb dX2_attach_22 rfl (fun hh => absurd hh (by decide)) (fun _ => ?_)
  refine lv_iload hx hb dX2_attach_25 (lv_at hl 4 rfl) ?_
  refine g_callS (As := [.int (nI i)]) (rest := []) (fm_isPage_t hi) hx hb hml hown hts hN hG t_142 t_143 t_1 t_144 nm_X2_isPage ⟨by decide, by decide⟩ hl.1 (Nat.le_of_ble_eq_true rfl) dX2_attach_27 ⟨Nat.zero_le _, Nat.zero_le _⟩ (fun H locs hG => ?_)
  refine W.eq (g2 := F0 m 30 ls [.int 1]) rfl ?_
  refine lv_if_ne (tgt := 36) hx hb dX2_attach_30 rfl (fun _ => ?_) (fun hh => absurd hh (by decide))
  refine lv_aload_n hx hb dX2_attach_36 rfl (lv_at hl 0 rfl) ?_
  refine g_get (k := 0) (v := .ref (ad 1)) (C := RX2) (ref := RX2) (fs := [.ref (ad 1), .ref (ad 2), .int af, .int cf]) hx hb hown hts hG gX2 rfl fp_0 (by decide) t_53 rfl rfl dX2_attach_37 ?_
  refine lv_iload_n hx hb dX2_attach_40 rfl (lv_at hl 1 rfl) ?_
  refine g_aald (i := j) (t0 := 1) hx hb hG fp_1 rfl (hj) (by decide) rfl dX2_attach_41 ?_
  refine lv_astore (lv' := [(5, .ref (ad (5 + 3 * j))), (0, .ref (ad 0)), (1, .int (nI j)), (2, .int (nI k)), (3, .int (nI n)), (4, .int (nI i))]) hx hb dX2_attach_42 hl (by decide) rfl (fun ls hl => ?_)
  refine lv_aload_n hx hb dX2_attach_44 rfl (lv_at hl 1 rfl) ?_
  refine g_get (k := 0) (v := .ref (ad 1)) (C := RX2) (ref := RX2) (fs := [.ref (ad 1), .ref (ad 2), .int af, .int cf]) hx hb hown hts hG gX2 rfl fp_0 (by decide) t_53 rfl rfl dX2_attach_45 ?_
  refine lv_iload_n hx hb dX2_attach_48 rfl (lv_at hl 4 rfl) ?_
  refine g_aald (i := n) (t0 := 1) hx hb hG fp_1 rfl (hn) (by decide) rfl dX2_attach_49 ?_
  refine lv_astore (lv' := [(6, .ref (ad (5 + 3 * n))), (5, .ref (ad (5 + 3 * j))), (0, .ref (ad 0)), (1, .int (nI j)), (2, .int (nI k)), (3, .int (nI n)), (4, .int (nI i))]) hx hb dX2_attach_50 hl (by decide) rfl (fun ls hl => ?_)
  refine lv_aload hx hb dX2_attach_52 (lv_at hl 0 rfl) ?_
  refine lv_iload hx hb dX2_attach_54 (lv_at hl 6 rfl) ?_
  refine g_callVN (As := [.int (nI i)]) (rest := []) (fs := [.int (bI (run n)), .long (en (mp n)), .ref (ad (6 + 3 * n)), .ref (ad (7 + 3 * n))]) (fm_has_t hn hi h3) hx hb hml hown hts hN hG t_101 t_103 s_5 t_2 t_104 nm_X0_has ⟨by decide, by decide⟩ (fp_5 (hn)) rfl hl.1 (Nat.le_of_ble_eq_true rfl) dX2_attach_56 ⟨Nat.zero_le _, Nat.zero_le _⟩ (fun H locs hG => ?_)
  refine W.eq (g2 := F0 m 59 ls [.int 1]) rfl ?_
  refine lv_if_ne (tgt := 65) hx hb dX2_attach_59 rfl (fun _ => ?_) (fun hh => absurd hh (by decide))
  refine lv_aload hx hb dX2_attach_65 (lv_at hl 1 rfl) ?_
  refine lv_iload_n hx hb dX2_attach_67 rfl (lv_at hl 4 rfl) ?_
  refine g_callVN (As := [.int (nI k)]) (rest := []) (fs := [.int (bI (run j)), .long (en (mp j)), .ref (ad (6 + 3 * j)), .ref (ad (7 + 3 * j))]) (fm_has_f hj hk h4) hx hb hml hown hts hN hG t_101 t_103 s_5 t_2 t_104 nm_X0_has ⟨by decide, by decide⟩ (fp_5 (hj)) rfl hl.1 (Nat.le_of_ble_eq_true rfl) dX2_attach_68 ⟨Nat.zero_le _, Nat.zero_le _⟩ (fun H locs hG => ?_)
  refine W.eq (g2 := F0 m 71 ls [.int 0]) rfl ?_
  refine lv_if_eq (tgt := 77) hx hb dX2_attach_71 rfl (fun _ => ?_) (fun hh => absurd (rfl) hh)
  refine lv_aload hx hb dX2_attach_77 (lv_at hl 0 rfl) ?_
  refine lv_iconst (v := 2) hx hb dX2_attach_79 (by decide) ?_
  refine lv_iload hx hb dX2_attach_80 (lv_at hl 6 rfl) ?_
  refine g_callVN (As := [.int 2, .int (nI i)]) (rest := []) (fs := [.int (bI (run n)), .long (en (mp n)), .ref (ad (6 + 3 * n)), .ref (ad (7 + 3 * n))]) (fm_is_f hn hi h5) hx hb hml hown hts hN hG t_109 t_111 s_7 t_2 t_112 nm_X0_is ⟨by decide, by decide⟩ (fp_5 (hn)) rfl hl.1 (Nat.le_of_ble_eq_true rfl) dX2_attach_82 ⟨Nat.zero_le _, Nat.zero_le _⟩ (fun H locs hG => ?_)
  refine W.eq (g2 := F0 m 85 ls [.int 0]) rfl ?_
  refine lv_if_ne (tgt := 91) hx hb dX2_attach_85 rfl (fun hh => absurd (rfl) hh) (fun _ => ?_)
  refine lv_bipush (v := (-6)) hx hb dX2_attach_88 (by decide) ?_
  exact g_iret hx hb hr hlk hG dX2_attach_90
set_option maxHeartbeats 4000000 in
set_option maxRecDepth 100000 in
theorem fp_attach_8 {j n : Nat} (hj : j < 5) (h : run j = true) (hn : n < 5) (h2 : run n = true) {k i : Nat} (hk : k < 64) (hi : i < 64) (h3 : mp n i = true) (h4 : mp j k = false) (h5 : ¬ kd n i &&& 2 = 0) (h6 : ¬ (nI (tbN (up1 (mp j) k true)) - nI (tbN (mp j))) ≤ frF run mp ct) : gM l yX2_attach cX2_attach 9 (some .int) 4 90 D cls (fpT cI cQ cZ) A (fpW ad cI cQ run mp fr kd wd ct af cf) [.ref (ad 0), .int (nI j), .int (nI k), .int (nI n), .int (nI i)] (some (.int (-8))) (fpW ad cI cQ run mp fr kd wd ct af cf) := by
  refine gM_of (by decide) (Nat.le_of_ble_eq_true rfl) ?_
  intro p e s m args below meth c ls hx hb hml hown hts hN hr hlk hl hG
  have hown : s.vm.findClass RX2 = some m.cls := hown
  have hl : lv_has ls 9 [(0, .ref (ad 0)), (1, .int (nI j)), (2, .int (nI k)), (3, .int (nI n)), (4, .int (nI i))] := hl
  refine lv_aload_n hx hb dX2_attach_0 rfl (lv_at hl 0 rfl) ?_
  refine lv_iload_n hx hb dX2_attach_1 rfl (lv_at hl 1 rfl) ?_
  refine g_callV (As := [.int (nI j)]) (rest := []) (fs := [.ref (ad 1), .ref (ad 2), .int af, .int cf]) (fm_isRunning_t hj h) hx hb hml hown hts hN hG t_97 t_99 s_4 t_1 t_100 nm_X2_isRunning ⟨by decide, by decide⟩ fp_0 rfl hl.1 (Nat.le_of_ble_eq_true rfl) dX2_attach_2 ⟨Nat.zero_le _, Nat.zero_le _⟩ (fun H locs hG => ?_)
  refine W.eq (g2 := F0 m 5 ls [.int 1]) rfl ?_
  refine lv_if_eq (tgt := 16) hx hb dX2_attach_5 rfl (fun hh => absurd hh (by decide)) (fun _ => ?_)
  refine lv_aload_n hx hb dX2_attach_8 rfl (lv_at hl 0 rfl) ?_
  refine lv_iload_n hx hb dX2_attach_9 rfl (lv_at hl 3 rfl) ?_
  refine g_callV (As := [.int (nI n)]) (rest := []) (fs := [.ref (ad 1), .ref (ad 2), .int af, .int cf]) (fm_isRunning_t hn h2) hx hb hml hown hts hN hG t_97 t_99 s_4 t_1 t_100 nm_X2_isRunning ⟨by decide, by decide⟩ fp_0 rfl hl.1 (Nat.le_of_ble_eq_true rfl) dX2_attach_10 ⟨Nat.zero_le _, Nat.zero_le _⟩ (fun H locs hG => ?_)
  refine W.eq (g2 := F0 m 13 ls [.int 1]) rfl ?_
  refine lv_if_ne (tgt := 18) hx hb dX2_attach_13 rfl (fun _ => ?_) (fun hh => absurd hh (by decide))
  refine lv_iload_n hx hb dX2_attach_18 rfl (lv_at hl 2 rfl) ?_
  refine g_callS (As := [.int (nI k)]) (rest := []) (fm_isPage_t hk) hx hb hml hown hts hN hG t_142 t_143 t_1 t_144 nm_X2_isPage ⟨by decide, by decide⟩ hl.1 (Nat.le_of_ble_eq_true rfl) dX2_attach_19 ⟨Nat.zero_le _, Nat.zero_le _⟩ (fun H locs hG => ?_)
  refine W.eq (g2 := F0 m 22 ls [.int 1]) rfl ?_
  refine lv_if_eq (tgt := 33) hx hb dX2_attach_22 rfl (fun hh => absurd hh (by decide)) (fun _ => ?_)
  refine lv_iload hx hb dX2_attach_25 (lv_at hl 4 rfl) ?_
  refine g_callS (As := [.int (nI i)]) (rest := []) (fm_isPage_t hi) hx hb hml hown hts hN hG t_142 t_143 t_1 t_144 nm_X2_isPage ⟨by decide, by decide⟩ hl.1 (Nat.le_of_ble_eq_true rfl) dX2_attach_27 ⟨Nat.zero_le _, Nat.zero_le _⟩ (fun H locs hG => ?_)
  refine W.eq (g2 := F0 m 30 ls [.int 1]) rfl ?_
  refine lv_if_ne (tgt := 36) hx hb dX2_attach_30 rfl (fun _ => ?_) (fun hh => absurd hh (by decide))
  refine lv_aload_n hx hb dX2_attach_36 rfl (lv_at hl 0 rfl) ?_
  refine g_get (k := 0) (v := .ref (ad 1)) (C := RX2) (ref := RX2) (fs := [.ref (ad 1), .ref (ad 2), .int af, .int cf]) hx hb hown hts hG gX2 rfl fp_0 (by decide) t_53 rfl rfl dX2_attach_37 ?_
  refine lv_iload_n hx hb dX2_attach_40 rfl (lv_at hl 1 rfl) ?_
  refine g_aald (i := j) (t0 := 1) hx hb hG fp_1 rfl (hj) (by decide) rfl dX2_attach_41 ?_
  refine lv_astore (lv' := [(5, .ref (ad (5 + 3 * j))), (0, .ref (ad 0)), (1, .int (nI j)), (2, .int (nI k)), (3, .int (nI n)), (4, .int (nI i))]) hx hb dX2_attach_42 hl (by decide) rfl (fun ls hl => ?_)
  refine lv_aload_n hx hb dX2_attach_44 rfl (lv_at hl 1 rfl) ?_
  refine g_get (k := 0) (v := .ref (ad 1)) (C := RX2) (ref := RX2) (fs := [.ref (ad 1), .ref (ad 2), .int af, .int cf]) hx hb hown hts hG gX2 rfl fp_0 (by decide) t_53 rfl rfl dX2_attach_45 ?_
  refine lv_iload_n hx hb dX2_attach_48 rfl (lv_at hl 4 rfl) ?_
  refine g_aald (i := n) (t0 := 1) hx hb hG fp_1 rfl (hn) (by decide) rfl dX2_attach_49 ?_
  refine lv_astore (lv' := [(6, .ref (ad (5 + 3 * n))), (5, .ref (ad (5 + 3 * j))), (0, .ref (ad 0)), (1, .int (nI j)), (2, .int (nI k)), (3, .int (nI n)), (4, .int (nI i))]) hx hb dX2_attach_50 hl (by decide) rfl (fun ls hl => ?_)
  refine lv_aload hx hb dX2_attach_52 (lv_at hl 0 rfl) ?_
  refine lv_iload hx hb dX2_attach_54 (lv_at hl 6 rfl) ?_
  refine g_callVN (As := [.int (nI i)]) (rest := []) (fs := [.int (bI (run n)), .long (en (mp n)), .ref (ad (6 + 3 * n)), .ref (ad (7 + 3 * n))]) (fm_has_t hn hi h3) hx hb hml hown hts hN hG t_101 t_103 s_5 t_2 t_104 nm_X0_has ⟨by decide, by decide⟩ (fp_5 (hn)) rfl hl.1 (Nat.le_of_ble_eq_true rfl) dX2_attach_56 ⟨Nat.zero_le _, Nat.zero_le _⟩ (fun H locs hG => ?_)
  refine W.eq (g2 := F0 m 59 ls [.int 1]) rfl ?_
  refine lv_if_ne (tgt := 65) hx hb dX2_attach_59 rfl (fun _ => ?_) (fun hh => absurd hh (by decide))
  refine lv_aload hx hb dX2_attach_65 (lv_at hl 1 rfl) ?_
  refine lv_iload_n hx hb dX2_attach_67 rfl (lv_at hl 4 rfl) ?_
  refine g_callVN (As := [.int (nI k)]) (rest := []) (fs := [.int (bI (run j)), .long (en (mp j)), .ref (ad (6 + 3 * j)), .ref (ad (7 + 3 * j))]) (fm_has_f hj hk h4) hx hb hml hown hts hN hG t_101 t_103 s_5 t_2 t_104 nm_X0_has ⟨by decide, by decide⟩ (fp_5 (hj)) rfl hl.1 (Nat.le_of_ble_eq_true rfl) dX2_attach_68 ⟨Nat.zero_le _, Nat.zero_le _⟩ (fun H locs hG => ?_)
  refine W.eq (g2 := F0 m 71 ls [.int 0]) rfl ?_
  refine lv_if_eq (tgt := 77) hx hb dX2_attach_71 rfl (fun _ => ?_) (fun hh => absurd (rfl) hh)
  refine lv_aload hx hb dX2_attach_77 (lv_at hl 0 rfl) ?_
  refine lv_iconst (v := 2) hx hb dX2_attach_79 (by decide) ?_
  refine lv_iload hx hb dX2_attach_80 (lv_at hl 6 rfl) ?_
  refine g_callVN (As := [.int 2, .int (nI i)]) (rest := []) (fs := [.int (bI (run n)), .long (en (mp n)), .ref (ad (6 + 3 * n)), .ref (ad (7 + 3 * n))]) (fm_is_t hn hi h5) hx hb hml hown hts hN hG t_109 t_111 s_7 t_2 t_112 nm_X0_is ⟨by decide, by decide⟩ (fp_5 (hn)) rfl hl.1 (Nat.le_of_ble_eq_true rfl) dX2_attach_82 ⟨Nat.zero_le _, Nat.zero_le _⟩ (fun H locs hG => ?_)
  refine W.eq (g2 := F0 m 85 ls [.int 1]) rfl ?_
  refine lv_if_ne (tgt := 91) hx hb dX2_attach_85 rfl (fun _ => ?_) (fun hh => absurd hh (by decide))
  refine lv_aload hx hb dX2_attach_91 (lv_at hl 1 rfl) ?_
  refine lv_iload_n hx hb dX2_attach_93 rfl (lv_at hl 4 rfl) ?_
  refine g_callVN (As := [.int (nI k)]) (rest := []) (fs := [.int (bI (run j)), .long (en (mp j)), .ref (ad (6 + 3 * j)), .ref (ad (7 + 3 * j))]) (fm_tablesToAdd hj hk) hx hb hml hown hts hN hG t_145 t_147 s_13 t_2 t_148 nm_X0_tablesToAdd ⟨by decide, by decide⟩ (fp_5 (hj)) rfl hl.1 (Nat.le_of_ble_eq_true rfl) dX2_attach_94 ⟨Nat.zero_le _, Nat.zero_le _⟩ (fun H locs hG => ?_)
  refine W.eq (g2 := F0 m 97 ls [.int (nI (tbN (up1 (mp j) k true)) - nI (tbN (mp j)))]) rfl ?_
  refine lv_istore (lv' := [(7, .int (nI (tbN (up1 (mp j) k true)) - nI (tbN (mp j)))), (6, .ref (ad (5 + 3 * n))), (5, .ref (ad (5 + 3 * j))), (0, .ref (ad 0)), (1, .int (nI j)), (2, .int (nI k)), (3, .int (nI n)), (4, .int (nI i))]) hx hb dX2_attach_97 hl (by decide) rfl (fun ls hl => ?_)
  refine lv_aload_n hx hb dX2_attach_99 rfl (lv_at hl 3 rfl) ?_
  refine g_callV (As := []) (rest := []) (fs := [.ref (ad 1), .ref (ad 2), .int af, .int cf]) (fm_freeFrames) hx hb hml hown hts hN hG t_74 t_76 s_1 t_1 t_77 nm_X2_freeFrames ⟨by decide, by decide⟩ fp_0 rfl hl.1 (Nat.le_of_ble_eq_true rfl) dX2_attach_100 ⟨Nat.zero_le _, Nat.zero_le _⟩ (fun H locs hG => ?_)
  refine W.eq (g2 := F0 m 103 ls [.int (frF run mp ct)]) rfl ?_
  refine lv_iload hx hb dX2_attach_103 (lv_at hl 0 rfl) ?_
  refine lv_icmp_ge (tgt := 111) hx hb dX2_attach_105 rfl (fun hh => absurd hh (h6)) (fun _ => ?_)
  refine lv_bipush (v := (-8)) hx hb dX2_attach_108 (by decide) ?_
  exact g_iret hx hb hr hlk hG dX2_attach_110
set_option maxHeartbeats 4000000 in
set_option maxRecDepth 100000 in
theorem fp_attach_w {j n : Nat} (hj : j < 5) (h : run j = true) (hn : n < 5) (h2 : run n = true) {k i : Nat} (hk : k < 64) (hi : i < 64) (h3 : mp n i = true) (h4 : mp j k = false) (h5 : ¬ kd n i &&& 2 = 0) (h6 : (nI (tbN (up1 (mp j) k true)) - nI (tbN (mp j))) ≤ frF run mp ct) (hf : fr n i < 24) (h7 : ¬ kd n i &&& 1 = 0) : gM l yX2_attach cX2_attach 9 (some .int) 4 90 D cls (fpT cI cQ cZ) A (fpW ad cI cQ run mp fr kd wd ct af cf) [.ref (ad 0), .int (nI j), .int (nI k), .int (nI n), .int (nI i)] (some (.int (nI (tbN (up1 (mp j) k true)) - nI (tbN (mp j))))) (fpW ad cI cQ run (up1 mp j (up1 (mp j) k true)) (up1 fr j (up1 (fr j) k (fr n i))) (up1 kd j (upd (kd j) k 3)) wd (upd ct (fr n i) (ct (fr n i) + 1)) af cf) := by
  refine gM_of (by decide) (Nat.le_of_ble_eq_true rfl) ?_
  intro p e s m args below meth c ls hx hb hml hown hts hN hr hlk hl hG
  have hown : s.vm.findClass RX2 = some m.cls := hown
  have hl : lv_has ls 9 [(0, .ref (ad 0)), (1, .int (nI j)), (2, .int (nI k)), (3, .int (nI n)), (4, .int (nI i))] := hl
  refine lv_aload_n hx hb dX2_attach_0 rfl (lv_at hl 0 rfl) ?_
  refine lv_iload_n hx hb dX2_attach_1 rfl (lv_at hl 1 rfl) ?_
  refine g_callV (As := [.int (nI j)]) (rest := []) (fs := [.ref (ad 1), .ref (ad 2), .int af, .int cf]) (fm_isRunning_t hj h) hx hb hml hown hts hN hG t_97 t_99 s_4 t_1 t_100 nm_X2_isRunning ⟨by decide, by decide⟩ fp_0 rfl hl.1 (Nat.le_of_ble_eq_true rfl) dX2_attach_2 ⟨Nat.zero_le _, Nat.zero_le _⟩ (fun H locs hG => ?_)
  refine W.eq (g2 := F0 m 5 ls [.int 1]) rfl ?_
  refine lv_if_eq (tgt := 16) hx hb dX2_attach_5 rfl (fun hh => absurd hh (by decide)) (fun _ => ?_)
  refine lv_aload_n hx hb dX2_attach_8 rfl (lv_at hl 0 rfl) ?_
  refine lv_iload_n hx hb dX2_attach_9 rfl (lv_at hl 3 rfl) ?_
  refine g_callV (As := [.int (nI n)]) (rest := []) (fs := [.ref (ad 1), .ref (ad 2), .int af, .int cf]) (fm_isRunning_t hn h2) hx hb hml hown hts hN hG t_97 t_99 s_4 t_1 t_100 nm_X2_isRunning ⟨by decide, by decide⟩ fp_0 rfl hl.1 (Nat.le_of_ble_eq_true rfl) dX2_attach_10 ⟨Nat.zero_le _, Nat.zero_le _⟩ (fun H locs hG => ?_)
  refine W.eq (g2 := F0 m 13 ls [.int 1]) rfl ?_
  refine lv_if_ne (tgt := 18) hx hb dX2_attach_13 rfl (fun _ => ?_) (fun hh => absurd hh (by decide))
  refine lv_iload_n hx hb dX2_attach_18 rfl (lv_at hl 2 rfl) ?_
  refine g_callS (As := [.int (nI k)]) (rest := []) (fm_isPage_t hk) hx hb hml hown hts hN hG t_142 t_143 t_1 t_144 nm_X2_isPage ⟨by decide, by decide⟩ hl.1 (Nat.le_of_ble_eq_true rfl) dX2_attach_19 ⟨Nat.zero_le _, Nat.zero_le _⟩ (fun H locs hG => ?_)
  refine W.eq (g2 := F0 m 22 ls [.int 1]) rfl ?_
  refine lv_if_eq (tgt := 33) hx hb dX2_attach_22 rfl (fun hh => absurd hh (by decide)) (fun _ => ?_)
  refine lv_iload hx hb dX2_attach_25 (lv_at hl 4 rfl) ?_
  refine g_callS (As := [.int (nI i)]) (rest := []) (fm_isPage_t hi) hx hb hml hown hts hN hG t_142 t_143 t_1 t_144 nm_X2_isPage ⟨by decide, by decide⟩ hl.1 (Nat.le_of_ble_eq_true rfl) dX2_attach_27 ⟨Nat.zero_le _, Nat.zero_le _⟩ (fun H locs hG => ?_)
  refine W.eq (g2 := F0 m 30 ls [.int 1]) rfl ?_
  refine lv_if_ne (tgt := 36) hx hb dX2_attach_30 rfl (fun _ => ?_) (fun hh => absurd hh (by decide))
  refine lv_aload_n hx hb dX2_attach_36 rfl (lv_at hl 0 rfl) ?_
  refine g_get (k := 0) (v := .ref (ad 1)) (C := RX2) (ref := RX2) (fs := [.ref (ad 1), .ref (ad 2), .int af, .int cf]) hx hb hown hts hG gX2 rfl fp_0 (by decide) t_53 rfl rfl dX2_attach_37 ?_
  refine lv_iload_n hx hb dX2_attach_40 rfl (lv_at hl 1 rfl) ?_
  refine g_aald (i := j) (t0 := 1) hx hb hG fp_1 rfl (hj) (by decide) rfl dX2_attach_41 ?_
  refine lv_astore (lv' := [(5, .ref (ad (5 + 3 * j))), (0, .ref (ad 0)), (1, .int (nI j)), (2, .int (nI k)), (3, .int (nI n)), (4, .int (nI i))]) hx hb dX2_attach_42 hl (by decide) rfl (fun ls hl => ?_)
  refine lv_aload_n hx hb dX2_attach_44 rfl (lv_at hl 1 rfl) ?_
  refine g_get (k := 0) (v := .ref (ad 1)) (C := RX2) (ref := RX2) (fs := [.ref (ad 1), .ref (ad 2), .int af, .int cf]) hx hb hown hts hG gX2 rfl fp_0 (by decide) t_53 rfl rfl dX2_attach_45 ?_
  refine lv_iload_n hx hb dX2_attach_48 rfl (lv_at hl 4 rfl) ?_
  refine g_aald (i := n) (t0 := 1) hx hb hG fp_1 rfl (hn) (by decide) rfl dX2_attach_49 ?_
  refine lv_astore (lv' := [(6, .ref (ad (5 + 3 * n))), (5, .ref (ad (5 + 3 * j))), (0, .ref (ad 0)), (1, .int (nI j)), (2, .int (nI k)), (3, .int (nI n)), (4, .int (nI i))]) hx hb dX2_attach_50 hl (by decide) rfl (fun ls hl => ?_)
  refine lv_aload hx hb dX2_attach_52 (lv_at hl 0 rfl) ?_
  refine lv_iload hx hb dX2_attach_54 (lv_at hl 6 rfl) ?_
  refine g_callVN (As := [.int (nI i)]) (rest := []) (fs := [.int (bI (run n)), .long (en (mp n)), .ref (ad (6 + 3 * n)), .ref (ad (7 + 3 * n))]) (fm_has_t hn hi h3) hx hb hml hown hts hN hG t_101 t_103 s_5 t_2 t_104 nm_X0_has ⟨by decide, by decide⟩ (fp_5 (hn)) rfl hl.1 (Nat.le_of_ble_eq_true rfl) dX2_attach_56 ⟨Nat.zero_le _, Nat.zero_le _⟩ (fun H locs hG => ?_)
  refine W.eq (g2 := F0 m 59 ls [.int 1]) rfl ?_
  refine lv_if_ne (tgt := 65) hx hb dX2_attach_59 rfl (fun _ => ?_) (fun hh => absurd hh (by decide))
  refine lv_aload hx hb dX2_attach_65 (lv_at hl 1 rfl) ?_
  refine lv_iload_n hx hb dX2_attach_67 rfl (lv_at hl 4 rfl) ?_
  refine g_callVN (As := [.int (nI k)]) (rest := []) (fs := [.int (bI (run j)), .long (en (mp j)), .ref (ad (6 + 3 * j)), .ref (ad (7 + 3 * j))]) (fm_has_f hj hk h4) hx hb hml hown hts hN hG t_101 t_103 s_5 t_2 t_104 nm_X0_has ⟨by decide, by decide⟩ (fp_5 (hj)) rfl hl.1 (Nat.le_of_ble_eq_true rfl) dX2_attach_68 ⟨Nat.zero_le _, Nat.zero_le _⟩ (fun H locs hG => ?_)
  refine W.eq (g2 := F0 m 71 ls [.int 0]) rfl ?_
  refine lv_if_eq (tgt := 77) hx hb dX2_attach_71 rfl (fun _ => ?_) (fun hh => absurd (rfl) hh)
  refine lv_aload hx hb dX2_attach_77 (lv_at hl 0 rfl) ?_
  refine lv_iconst (v := 2) hx hb dX2_attach_79 (by decide) ?_
  refine lv_iload hx hb dX2_attach_80 (lv_at hl 6 rfl) ?_
  refine g_callVN (As := [.int 2, .int (nI i)]) (rest := []) (fs := [.int (bI (run n)), .long (en (mp n)), .ref (ad (6 + 3 * n)), .ref (ad (7 + 3 * n))]) (fm_is_t hn hi h5) hx hb hml hown hts hN hG t_109 t_111 s_7 t_2 t_112 nm_X0_is ⟨by decide, by decide⟩ (fp_5 (hn)) rfl hl.1 (Nat.le_of_ble_eq_true rfl) dX2_attach_82 ⟨Nat.zero_le _, Nat.zero_le _⟩ (fun H locs hG => ?_)
  refine W.eq (g2 := F0 m 85 ls [.int 1]) rfl ?_
  refine lv_if_ne (tgt := 91) hx hb dX2_attach_85 rfl (fun _ => ?_) (fun hh => absurd hh (by decide))
  refine lv_aload hx hb dX2_attach_91 (lv_at hl 1 rfl) ?_
  refine lv_iload_n hx hb dX2_attach_93 rfl (lv_at hl 4 rfl) ?_
  refine g_callVN (As := [.int (nI k)]) (rest := []) (fs := [.int (bI (run j)), .long (en (mp j)), .ref (ad (6 + 3 * j)), .ref (ad (7 + 3 * j))]) (fm_tablesToAdd hj hk) hx hb hml hown hts hN hG t_145 t_147 s_13 t_2 t_148 nm_X0_tablesToAdd ⟨by decide, by decide⟩ (fp_5 (hj)) rfl hl.1 (Nat.le_of_ble_eq_true rfl) dX2_attach_94 ⟨Nat.zero_le _, Nat.zero_le _⟩ (fun H locs hG => ?_)
  refine W.eq (g2 := F0 m 97 ls [.int (nI (tbN (up1 (mp j) k true)) - nI (tbN (mp j)))]) rfl ?_
  refine lv_istore (lv' := [(7, .int (nI (tbN (up1 (mp j) k true)) - nI (tbN (mp j)))), (6, .ref (ad (5 + 3 * n))), (5, .ref (ad (5 + 3 * j))), (0, .ref (ad 0)), (1, .int (nI j)), (2, .int (nI k)), (3, .int (nI n)), (4, .int (nI i))]) hx hb dX2_attach_97 hl (by decide) rfl (fun ls hl => ?_)
  refine lv_aload_n hx hb dX2_attach_99 rfl (lv_at hl 3 rfl) ?_
  refine g_callV (As := []) (rest := []) (fs := [.ref (ad 1), .ref (ad 2), .int af, .int cf]) (fm_freeFrames) hx hb hml hown hts hN hG t_74 t_76 s_1 t_1 t_77 nm_X2_freeFrames ⟨by decide, by decide⟩ fp_0 rfl hl.1 (Nat.le_of_ble_eq_true rfl) dX2_attach_100 ⟨Nat.zero_le _, Nat.zero_le _⟩ (fun H locs hG => ?_)
  refine W.eq (g2 := F0 m 103 ls [.int (frF run mp ct)]) rfl ?_
  refine lv_iload hx hb dX2_attach_103 (lv_at hl 0 rfl) ?_
  refine lv_icmp_ge (tgt := 111) hx hb dX2_attach_105 rfl (fun _ => ?_) (fun hh => absurd (h6) hh)
  refine lv_aload hx hb dX2_attach_111 (lv_at hl 1 rfl) ?_
  refine lv_iconst (v := 1) hx hb dX2_attach_113 (by decide) ?_
  refine lv_iload hx hb dX2_attach_114 (lv_at hl 7 rfl) ?_
  refine g_callVN (As := [.int 1, .int (nI i)]) (rest := []) (fs := [.int (bI (run n)), .long (en (mp n)), .ref (ad (6 + 3 * n)), .ref (ad (7 + 3 * n))]) (fm_is_t hn hi h7) hx hb hml hown hts hN hG t_109 t_111 s_7 t_2 t_112 nm_X0_is ⟨by decide, by decide⟩ (fp_5 (hn)) rfl hl.1 (Nat.le_of_ble_eq_true rfl) dX2_attach_116 ⟨Nat.zero_le _, Nat.zero_le _⟩ (fun H locs hG => ?_)
  refine W.eq (g2 := F0 m 119 ls [.int 1]) rfl ?_
  refine lv_if_eq (tgt := 126) hx hb dX2_attach_119 rfl (fun hh => absurd hh (by decide)) (fun _ => ?_)
  refine lv_iconst (v := 3) hx hb dX2_attach_122 (by decide) ?_
  refine lv_goto (tgt := 127) hx hb dX2_attach_123 rfl ?_
  refine lv_istore (lv' := [(8, .int 3), (7, .int (nI (tbN (up1 (mp j) k true)) - nI (tbN (mp j)))), (6, .ref (ad (5 + 3 * n))), (5, .ref (ad (5 + 3 * j))), (0, .ref (ad 0)), (1, .int (nI j)), (2, .int (nI k)), (3, .int (nI n)), (4, .int (nI i))]) hx hb dX2_attach_127 hl (by decide) rfl (fun ls hl => ?_)
  refine lv_aload_n hx hb dX2_attach_129 rfl (lv_at hl 4 rfl) ?_
  refine lv_aload hx hb dX2_attach_130 (lv_at hl 3 rfl) ?_
  refine lv_iload_n hx hb dX2_attach_132 rfl (lv_at hl 6 rfl) ?_
  refine lv_aload hx hb dX2_attach_133 (lv_at hl 2 rfl) ?_
  refine g_getN (k := 2) (v := .ref (ad (6 + 3 * n))) (C := RX0) (ref := RX0) (fs := [.int (bI (run n)), .long (en (mp n)), .ref (ad (6 + 3 * n)), .ref (ad (7 + 3 * n))]) hx hb hown hts hN hG gX0 rfl (fp_5 (hn)) (by decide) t_25 rfl rfl dX2_attach_135 ?_
  refine lv_iload hx hb dX2_attach_138 (lv_at hl 8 rfl) ?_
  refine g_iald (i := i) (t0 := 0) hx hb hG (fp_6 (hn)) rfl (hi) (by decide) dX2_attach_140 ?_
  refine lv_iload hx hb dX2_attach_141 (lv_at hl 0 rfl) ?_
  refine g_callV (As := [.ref (ad (5 + 3 * j)), .int (nI k), .int (nI (fr n i)), .int 3]) (rest := []) (fs := [.ref (ad 1), .ref (ad 2), .int af, .int cf]) (fm_startMapping hj hk hf) hx hb hml hown hts hN hG t_117 t_119 s_9 t_1 t_120 nm_X2_startMapping ⟨by decide, by decide⟩ fp_0 rfl hl.1 (Nat.le_of_ble_eq_true rfl) dX2_attach_143 ⟨Nat.zero_le _, Nat.zero_le _⟩ (fun H locs hG => ?_)
  refine W.eq (g2 := F0 m 146 ls []) rfl ?_
  refine lv_iload hx hb dX2_attach_146 (lv_at hl 1 rfl) ?_
  exact g_iret hx hb hr hlk hG dX2_attach_148
set_option maxHeartbeats 4000000 in
set_option maxRecDepth 100000 in
theorem fp_attach_r {j n : Nat} (hj : j < 5) (h : run j = true) (hn : n < 5) (h2 : run n = true) {k i : Nat} (hk : k < 64) (hi : i < 64) (h3 : mp n i = true) (h4 : mp j k = false) (h5 : ¬ kd n i &&& 2 = 0) (h6 : (nI (tbN (up1 (mp j) k true)) - nI (tbN (mp j))) ≤ frF run mp ct) (hf : fr n i < 24) (h7 : kd n i &&& 1 = 0) : gM l yX2_attach cX2_attach 9 (some .int) 4 90 D cls (fpT cI cQ cZ) A (fpW ad cI cQ run mp fr kd wd ct af cf) [.ref (ad 0), .int (nI j), .int (nI k), .int (nI n), .int (nI i)] (some (.int (nI (tbN (up1 (mp j) k true)) - nI (tbN (mp j))))) (fpW ad cI cQ run (up1 mp j (up1 (mp j) k true)) (up1 fr j (up1 (fr j) k (fr n i))) (up1 kd j (upd (kd j) k 2)) wd (upd ct (fr n i) (ct (fr n i) + 1)) af cf) := by
  refine gM_of (by decide) (Nat.le_of_ble_eq_true rfl) ?_
  intro p e s m args below meth c ls hx hb hml hown hts hN hr hlk hl hG
  have hown : s.vm.findClass RX2 = some m.cls := hown
  have hl : lv_has ls 9 [(0, .ref (ad 0)), (1, .int (nI j)), (2, .int (nI k)), (3, .int (nI n)), (4, .int (nI i))] := hl
  refine lv_aload_n hx hb dX2_attach_0 rfl (lv_at hl 0 rfl) ?_
  refine lv_iload_n hx hb dX2_attach_1 rfl (lv_at hl 1 rfl) ?_
  refine g_callV (As := [.int (nI j)]) (rest := []) (fs := [.ref (ad 1), .ref (ad 2), .int af, .int cf]) (fm_isRunning_t hj h) hx hb hml hown hts hN hG t_97 t_99 s_4 t_1 t_100 nm_X2_isRunning ⟨by decide, by decide⟩ fp_0 rfl hl.1 (Nat.le_of_ble_eq_true rfl) dX2_attach_2 ⟨Nat.zero_le _, Nat.zero_le _⟩ (fun H locs hG => ?_)
  refine W.eq (g2 := F0 m 5 ls [.int 1]) rfl ?_
  refine lv_if_eq (tgt := 16) hx hb dX2_attach_5 rfl (fun hh => absurd hh (by decide)) (fun _ => ?_)
  refine lv_aload_n hx hb dX2_attach_8 rfl (lv_at hl 0 rfl) ?_
  refine lv_iload_n hx hb dX2_attach_9 rfl (lv_at hl 3 rfl) ?_
  refine g_callV (As := [.int (nI n)]) (rest := []) (fs := [.ref (ad 1), .ref (ad 2), .int af, .int cf]) (fm_isRunning_t hn h2) hx hb hml hown hts hN hG t_97 t_99 s_4 t_1 t_100 nm_X2_isRunning ⟨by decide, by decide⟩ fp_0 rfl hl.1 (Nat.le_of_ble_eq_true rfl) dX2_attach_10 ⟨Nat.zero_le _, Nat.zero_le _⟩ (fun H locs hG => ?_)
  refine W.eq (g2 := F0 m 13 ls [.int 1]) rfl ?_
  refine lv_if_ne (tgt := 18) hx hb dX2_attach_13 rfl (fun _ => ?_) (fun hh => absurd hh (by decide))
  refine lv_iload_n hx hb dX2_attach_18 rfl (lv_at hl 2 rfl) ?_
  refine g_callS (As := [.int (nI k)]) (rest := []) (fm_isPage_t hk) hx hb hml hown hts hN hG t_142 t_143 t_1 t_144 nm_X2_isPage ⟨by decide, by decide⟩ hl.1 (Nat.le_of_ble_eq_true rfl) dX2_attach_19 ⟨Nat.zero_le _, Nat.zero_le _⟩ (fun H locs hG => ?_)
  refine W.eq (g2 := F0 m 22 ls [.int 1]) rfl ?_
  refine lv_if_eq (tgt := 33) hx hb dX2_attach_22 rfl (fun hh => absurd hh (by decide)) (fun _ => ?_)
  refine lv_iload hx hb dX2_attach_25 (lv_at hl 4 rfl) ?_
  refine g_callS (As := [.int (nI i)]) (rest := []) (fm_isPage_t hi) hx hb hml hown hts hN hG t_142 t_143 t_1 t_144 nm_X2_isPage ⟨by decide, by decide⟩ hl.1 (Nat.le_of_ble_eq_true rfl) dX2_attach_27 ⟨Nat.zero_le _, Nat.zero_le _⟩ (fun H locs hG => ?_)
  refine W.eq (g2 := F0 m 30 ls [.int 1]) rfl ?_
  refine lv_if_ne (tgt := 36) hx hb dX2_attach_30 rfl (fun _ => ?_) (fun hh => absurd hh (by decide))
  refine lv_aload_n hx hb dX2_attach_36 rfl (lv_at hl 0 rfl) ?_
  refine g_get (k := 0) (v := .ref (ad 1)) (C := RX2) (ref := RX2) (fs := [.ref (ad 1), .ref (ad 2), .int af, .int cf]) hx hb hown hts hG gX2 rfl fp_0 (by decide) t_53 rfl rfl dX2_attach_37 ?_
  refine lv_iload_n hx hb dX2_attach_40 rfl (lv_at hl 1 rfl) ?_
  refine g_aald (i := j) (t0 := 1) hx hb hG fp_1 rfl (hj) (by decide) rfl dX2_attach_41 ?_
  refine lv_astore (lv' := [(5, .ref (ad (5 + 3 * j))), (0, .ref (ad 0)), (1, .int (nI j)), (2, .int (nI k)), (3, .int (nI n)), (4, .int (nI i))]) hx hb dX2_attach_42 hl (by decide) rfl (fun ls hl => ?_)
  refine lv_aload_n hx hb dX2_attach_44 rfl (lv_at hl 1 rfl) ?_
  refine g_get (k := 0) (v := .ref (ad 1)) (C := RX2) (ref := RX2) (fs := [.ref (ad 1), .ref (ad 2), .int af, .int cf]) hx hb hown hts hG gX2 rfl fp_0 (by decide) t_53 rfl rfl dX2_attach_45 ?_
  refine lv_iload_n hx hb dX2_attach_48 rfl (lv_at hl 4 rfl) ?_
  refine g_aald (i := n) (t0 := 1) hx hb hG fp_1 rfl (hn) (by decide) rfl dX2_attach_49 ?_
  refine lv_astore (lv' := [(6, .ref (ad (5 + 3 * n))), (5, .ref (ad (5 + 3 * j))), (0, .ref (ad 0)), (1, .int (nI j)), (2, .int (nI k)), (3, .int (nI n)), (4, .int (nI i))]) hx hb dX2_attach_50 hl (by decide) rfl (fun ls hl => ?_)
  refine lv_aload hx hb dX2_attach_52 (lv_at hl 0 rfl) ?_
  refine lv_iload hx hb dX2_attach_54 (lv_at hl 6 rfl) ?_
  refine g_callVN (As := [.int (nI i)]) (rest := []) (fs := [.int (bI (run n)), .long (en (mp n)), .ref (ad (6 + 3 * n)), .ref (ad (7 + 3 * n))]) (fm_has_t hn hi h3) hx hb hml hown hts hN hG t_101 t_103 s_5 t_2 t_104 nm_X0_has ⟨by decide, by decide⟩ (fp_5 (hn)) rfl hl.1 (Nat.le_of_ble_eq_true rfl) dX2_attach_56 ⟨Nat.zero_le _, Nat.zero_le _⟩ (fun H locs hG => ?_)
  refine W.eq (g2 := F0 m 59 ls [.int 1]) rfl ?_
  refine lv_if_ne (tgt := 65) hx hb dX2_attach_59 rfl (fun _ => ?_) (fun hh => absurd hh (by decide))
  refine lv_aload hx hb dX2_attach_65 (lv_at hl 1 rfl) ?_
  refine lv_iload_n hx hb dX2_attach_67 rfl (lv_at hl 4 rfl) ?_
  refine g_callVN (As := [.int (nI k)]) (rest := []) (fs := [.int (bI (run j)), .long (en (mp j)), .ref (ad (6 + 3 * j)), .ref (ad (7 + 3 * j))]) (fm_has_f hj hk h4) hx hb hml hown hts hN hG t_101 t_103 s_5 t_2 t_104 nm_X0_has ⟨by decide, by decide⟩ (fp_5 (hj)) rfl hl.1 (Nat.le_of_ble_eq_true rfl) dX2_attach_68 ⟨Nat.zero_le _, Nat.zero_le _⟩ (fun H locs hG => ?_)
  refine W.eq (g2 := F0 m 71 ls [.int 0]) rfl ?_
  refine lv_if_eq (tgt := 77) hx hb dX2_attach_71 rfl (fun _ => ?_) (fun hh => absurd (rfl) hh)
  refine lv_aload hx hb dX2_attach_77 (lv_at hl 0 rfl) ?_
  refine lv_iconst (v := 2) hx hb dX2_attach_79 (by decide) ?_
  refine lv_iload hx hb dX2_attach_80 (lv_at hl 6 rfl) ?_
  refine g_callVN (As := [.int 2, .int (nI i)]) (rest := []) (fs := [.int (bI (run n)), .long (en (mp n)), .ref (ad (6 + 3 * n)), .ref (ad (7 + 3 * n))]) (fm_is_t hn hi h5) hx hb hml hown hts hN hG t_109 t_111 s_7 t_2 t_112 nm_X0_is ⟨by decide, by decide⟩ (fp_5 (hn)) rfl hl.1 (Nat.le_of_ble_eq_true rfl) dX2_attach_82 ⟨Nat.zero_le _, Nat.zero_le _⟩ (fun H locs hG => ?_)
  refine W.eq (g2 := F0 m 85 ls [.int 1]) rfl ?_
  refine lv_if_ne (tgt := 91) hx hb dX2_attach_85 rfl (fun _ => ?_) (fun hh => absurd hh (by decide))
  refine lv_aload hx hb dX2_attach_91 (lv_at hl 1 rfl) ?_
  refine lv_iload_n hx hb dX2_attach_93 rfl (lv_at hl 4 rfl) ?_
  refine g_callVN (As := [.int (nI k)]) (rest := []) (fs := [.int (bI (run j)), .long (en (mp j)), .ref (ad (6 + 3 * j)), .ref (ad (7 + 3 * j))]) (fm_tablesToAdd hj hk) hx hb hml hown hts hN hG t_145 t_147 s_13 t_2 t_148 nm_X0_tablesToAdd ⟨by decide, by decide⟩ (fp_5 (hj)) rfl hl.1 (Nat.le_of_ble_eq_true rfl) dX2_attach_94 ⟨Nat.zero_le _, Nat.zero_le _⟩ (fun H locs hG => ?_)
  refine W.eq (g2 := F0 m 97 ls [.int (nI (tbN (up1 (mp j) k true)) - nI (tbN (mp j)))]) rfl ?_
  refine lv_istore (lv' := [(7, .int (nI (tbN (up1 (mp j) k true)) - nI (tbN (mp j)))), (6, .ref (ad (5 + 3 * n))), (5, .ref (ad (5 + 3 * j))), (0, .ref (ad 0)), (1, .int (nI j)), (2, .int (nI k)), (3, .int (nI n)), (4, .int (nI i))]) hx hb dX2_attach_97 hl (by decide) rfl (fun ls hl => ?_)
  refine lv_aload_n hx hb dX2_attach_99 rfl (lv_at hl 3 rfl) ?_
  refine g_callV (As := []) (rest := []) (fs := [.ref (ad 1), .ref (ad 2), .int af, .int cf]) (fm_freeFrames) hx hb hml hown hts hN hG t_74 t_76 s_1 t_1 t_77 nm_X2_freeFrames ⟨by decide, by decide⟩ fp_0 rfl hl.1 (Nat.le_of_ble_eq_true rfl) dX2_attach_100 ⟨Nat.zero_le _, Nat.zero_le _⟩ (fun H locs hG => ?_)
  refine W.eq (g2 := F0 m 103 ls [.int (frF run mp ct)]) rfl ?_
  refine lv_iload hx hb dX2_attach_103 (lv_at hl 0 rfl) ?_
  refine lv_icmp_ge (tgt := 111) hx hb dX2_attach_105 rfl (fun _ => ?_) (fun hh => absurd (h6) hh)
  refine lv_aload hx hb dX2_attach_111 (lv_at hl 1 rfl) ?_
  refine lv_iconst (v := 1) hx hb dX2_attach_113 (by decide) ?_
  refine lv_iload hx hb dX2_attach_114 (lv_at hl 7 rfl) ?_
  refine g_callVN (As := [.int 1, .int (nI i)]) (rest := []) (fs := [.int (bI (run n)), .long (en (mp n)), .ref (ad (6 + 3 * n)), .ref (ad (7 + 3 * n))]) (fm_is_f hn hi h7) hx hb hml hown hts hN hG t_109 t_111 s_7 t_2 t_112 nm_X0_is ⟨by decide, by decide⟩ (fp_5 (hn)) rfl hl.1 (Nat.le_of_ble_eq_true rfl) dX2_attach_116 ⟨Nat.zero_le _, Nat.zero_le _⟩ (fun H locs hG => ?_)
  refine W.eq (g2 := F0 m 119 ls [.int 0]) rfl ?_
  refine lv_if_eq (tgt := 126) hx hb dX2_attach_119 rfl (fun _ => ?_) (fun hh => absurd (rfl) hh)
  refine lv_iconst (v := 2) hx hb dX2_attach_126 (by decide) ?_
  refine lv_istore (lv' := [(8, .int 2), (7, .int (nI (tbN (up1 (mp j) k true)) - nI (tbN (mp j)))), (6, .ref (ad (5 + 3 * n))), (5, .ref (ad (5 + 3 * j))), (0, .ref (ad 0)), (1, .int (nI j)), (2, .int (nI k)), (3, .int (nI n)), (4, .int (nI i))]) hx hb dX2_attach_127 hl (by decide) rfl (fun ls hl => ?_)
  refine lv_aload_n hx hb dX2_attach_129 rfl (lv_at hl 4 rfl) ?_
  refine lv_aload hx hb dX2_attach_130 (lv_at hl 3 rfl) ?_
  refine lv_iload_n hx hb dX2_attach_132 rfl (lv_at hl 6 rfl) ?_
  refine lv_aload hx hb dX2_attach_133 (lv_at hl 2 rfl) ?_
  refine g_getN (k := 2) (v := .ref (ad (6 + 3 * n))) (C := RX0) (ref := RX0) (fs := [.int (bI (run n)), .long (en (mp n)), .ref (ad (6 + 3 * n)), .ref (ad (7 + 3 * n))]) hx hb hown hts hN hG gX0 rfl (fp_5 (hn)) (by decide) t_25 rfl rfl dX2_attach_135 ?_
  refine lv_iload hx hb dX2_attach_138 (lv_at hl 8 rfl) ?_
  refine g_iald (i := i) (t0 := 0) hx hb hG (fp_6 (hn)) rfl (hi) (by decide) dX2_attach_140 ?_
  refine lv_iload hx hb dX2_attach_141 (lv_at hl 0 rfl) ?_
  refine g_callV (As := [.ref (ad (5 + 3 * j)), .int (nI k), .int (nI (fr n i)), .int 2]) (rest := []) (fs := [.ref (ad 1), .ref (ad 2), .int af, .int cf]) (fm_startMapping hj hk hf) hx hb hml hown hts hN hG t_117 t_119 s_9 t_1 t_120 nm_X2_startMapping ⟨by decide, by decide⟩ fp_0 rfl hl.1 (Nat.le_of_ble_eq_true rfl) dX2_attach_143 ⟨Nat.zero_le _, Nat.zero_le _⟩ (fun H locs hG => ?_)
  refine W.eq (g2 := F0 m 146 ls []) rfl ?_
  refine lv_iload hx hb dX2_attach_146 (lv_at hl 1 rfl) ?_
  exact g_iret hx hb hr hlk hG dX2_attach_148
set_option maxHeartbeats 4000000 in
set_option maxRecDepth 100000 in
theorem fp_unmap_no {x y  r : Int32} (hr0 : ¬ r = 0) (hM : gM l yX2_refusalOfMapped cX2_refusalOfMapped 3 (some .int) 1 21 D cls (fpT cI cQ cZ) A (fpW ad cI cQ run mp fr kd wd ct af cf) [.ref (ad 0), .int x, .int y] (some (.int r)) (fpW ad cI cQ run mp fr kd wd ct af cf)) : gM l yX2_unmap cX2_unmap 5 (some .int) 4 90 D cls (fpT cI cQ cZ) A (fpW ad cI cQ run mp fr kd wd ct af cf) [.ref (ad 0), .int x, .int y] (some (.int r)) (fpW ad cI cQ run mp fr kd wd ct af cf) := by
  refine gM_of (by decide) (Nat.le_of_ble_eq_true rfl) ?_
  intro p e s m args below meth c ls hx hb hml hown hts hN hr hlk hl hG
  have hown : s.vm.findClass RX2 = some m.cls := hown
  have hl : lv_has ls 5 [(0, .ref (ad 0)), (1, .int x), (2, .int y)] := hl
  refine lv_aload_n hx hb dX2_unmap_0 rfl (lv_at hl 0 rfl) ?_
  refine lv_iload_n hx hb dX2_unmap_1 rfl (lv_at hl 1 rfl) ?_
  refine lv_iload_n hx hb dX2_unmap_2 rfl (lv_at hl 2 rfl) ?_
  refine g_callV (As := [.int x, .int y]) (rest := []) (fs := [.ref (ad 1), .ref (ad 2), .int af, .int cf]) (hM) hx hb hml hown hts hN hG t_165 t_167 s_16 t_1 t_168 nm_X2_refusalOfMapped ⟨by decide, by decide⟩ fp_0 rfl hl.1 (Nat.le_of_ble_eq_true rfl) dX2_unmap_3 ⟨Nat.zero_le _, Nat.zero_le _⟩ (fun H locs hG => ?_)
  refine W.eq (g2 := F0 m 6 ls [.int r]) rfl ?_
  refine lv_istore_n (lv' := [(3, .int r), (0, .ref (ad 0)), (1, .int x), (2, .int y)]) hx hb dX2_unmap_6 rfl hl (by decide) rfl (fun ls hl => ?_)
  refine lv_iload_n hx hb dX2_unmap_7 rfl (lv_at hl 0 rfl) ?_
  refine lv_if_eq (tgt := 13) hx hb dX2_unmap_8 rfl (fun hh => absurd hh (hr0)) (fun _ => ?_)
  refine lv_iload_n hx hb dX2_unmap_11 rfl (lv_at hl 0 rfl) ?_
  exact g_iret hx hb hr hlk hG dX2_unmap_12
set_option maxHeartbeats 4000000 in
set_option maxRecDepth 100000 in
theorem fp_count_no {x y  r : Int32} (hr0 : ¬ r = 0) (hM : gM l yX2_refusalOfMapped cX2_refusalOfMapped 3 (some .int) 1 21 D cls (fpT cI cQ cZ) A (fpW ad cI cQ run mp fr kd wd ct af cf) [.ref (ad 0), .int x, .int y] (some (.int r)) (fpW ad cI cQ run mp fr kd wd ct af cf)) : gM l yX2_count cX2_count 4 (some .int) 2 43 D cls (fpT cI cQ cZ) A (fpW ad cI cQ run mp fr kd wd ct af cf) [.ref (ad 0), .int x, .int y] (some (.int r)) (fpW ad cI cQ run mp fr kd wd ct af cf) := by
  refine gM_of (by decide) (Nat.le_of_ble_eq_true rfl) ?_
  intro p e s m args below meth c ls hx hb hml hown hts hN hr hlk hl hG
  have hown : s.vm.findClass RX2 = some m.cls := hown
  have hl : lv_has ls 4 [(0, .ref (ad 0)), (1, .int x), (2, .int y)] := hl
  refine lv_aload_n hx hb dX2_count_0 rfl (lv_at hl 0 rfl) ?_
  refine lv_iload_n hx hb dX2_count_1 rfl (lv_at hl 1 rfl) ?_
  refine lv_iload_n hx hb dX2_count_2 rfl (lv_at hl 2 rfl) ?_
  refine g_callV (As := [.int x, .int y]) (rest := []) (fs := [.ref (ad 1), .ref (ad 2), .int af, .int cf]) (hM) hx hb hml hown hts hN hG t_165 t_167 s_16 t_1 t_168 nm_X2_refusalOfMapped ⟨by decide, by decide⟩ fp_0 rfl hl.1 (Nat.le_of_ble_eq_true rfl) dX2_count_3 ⟨Nat.zero_le _, Nat.zero_le _⟩ (fun H locs hG => ?_)
  refine W.eq (g2 := F0 m 6 ls [.int r]) rfl ?_
  refine lv_istore_n (lv' := [(3, .int r), (0, .ref (ad 0)), (1, .int x), (2, .int y)]) hx hb dX2_count_6 rfl hl (by decide) rfl (fun ls hl => ?_)
  refine lv_iload_n hx hb dX2_count_7 rfl (lv_at hl 0 rfl) ?_
  refine lv_if_eq (tgt := 13) hx hb dX2_count_8 rfl (fun hh => absurd hh (hr0)) (fun _ => ?_)
  refine lv_iload_n hx hb dX2_count_11 rfl (lv_at hl 0 rfl) ?_
  exact g_iret hx hb hr hlk hG dX2_count_12
set_option maxHeartbeats 4000000 in
set_option maxRecDepth 100000 in
theorem fp_mapping_no {x y  r : Int32} (hr0 : ¬ r = 0) (hM : gM l yX2_refusalOfMapped cX2_refusalOfMapped 3 (some .int) 1 21 D cls (fpT cI cQ cZ) A (fpW ad cI cQ run mp fr kd wd ct af cf) [.ref (ad 0), .int x, .int y] (some (.int r)) (fpW ad cI cQ run mp fr kd wd ct af cf)) : gM l yX2_mapping cX2_mapping 4 (some .int) 2 43 D cls (fpT cI cQ cZ) A (fpW ad cI cQ run mp fr kd wd ct af cf) [.ref (ad 0), .int x, .int y] (some (.int r)) (fpW ad cI cQ run mp fr kd wd ct af cf) := by
  refine gM_of (by decide) (Nat.le_of_ble_eq_true rfl) ?_
  intro p e s m args below meth c ls hx hb hml hown hts hN hr hlk hl hG
  have hown : s.vm.findClass RX2 = some m.cls := hown
  have hl : lv_has ls 4 [(0, .ref (ad 0)), (1, .int x), (2, .int y)] := hl
  refine lv_aload_n hx hb dX2_mapping_0 rfl (lv_at hl 0 rfl) ?_
  refine lv_iload_n hx hb dX2_mapping_1 rfl (lv_at hl 1 rfl) ?_
  refine lv_iload_n hx hb dX2_mapping_2 rfl (lv_at hl 2 rfl) ?_
  refine g_callV (As := [.int x, .int y]) (rest := []) (fs := [.ref (ad 1), .ref (ad 2), .int af, .int cf]) (hM) hx hb hml hown hts hN hG t_165 t_167 s_16 t_1 t_168 nm_X2_refusalOfMapped ⟨by decide, by decide⟩ fp_0 rfl hl.1 (Nat.le_of_ble_eq_true rfl) dX2_mapping_3 ⟨Nat.zero_le _, Nat.zero_le _⟩ (fun H locs hG => ?_)
  refine W.eq (g2 := F0 m 6 ls [.int r]) rfl ?_
  refine lv_istore_n (lv' := [(3, .int r), (0, .ref (ad 0)), (1, .int x), (2, .int y)]) hx hb dX2_mapping_6 rfl hl (by decide) rfl (fun ls hl => ?_)
  refine lv_iload_n hx hb dX2_mapping_7 rfl (lv_at hl 0 rfl) ?_
  refine lv_if_eq (tgt := 13) hx hb dX2_mapping_8 rfl (fun hh => absurd hh (hr0)) (fun _ => ?_)
  refine lv_iload_n hx hb dX2_mapping_11 rfl (lv_at hl 0 rfl) ?_
  exact g_iret hx hb hr hlk hG dX2_mapping_12
set_option maxHeartbeats 4000000 in
set_option maxRecDepth 100000 in
theorem fp_protect_no {x y z r : Int32} (hr0 : ¬ r = 0) (hM : gM l yX2_refusalOfMapped cX2_refusalOfMapped 3 (some .int) 1 21 D cls (fpT cI cQ cZ) A (fpW ad cI cQ run mp fr kd wd ct af cf) [.ref (ad 0), .int x, .int y] (some (.int r)) (fpW ad cI cQ run mp fr kd wd ct af cf)) : gM l yX2_protect cX2_protect 6 (some .int) 2 43 D cls (fpT cI cQ cZ) A (fpW ad cI cQ run mp fr kd wd ct af cf) [.ref (ad 0), .int x, .int y, .int z] (some (.int r)) (fpW ad cI cQ run mp fr kd wd ct af cf) := by
  refine gM_of (by decide) (Nat.le_of_ble_eq_true rfl) ?_
  intro p e s m args below meth c ls hx hb hml hown hts hN hr hlk hl hG
  have hown : s.vm.findClass RX2 = some m.cls := hown
  have hl : lv_has ls 6 [(0, .ref (ad 0)), (1, .int x), (2, .int y), (3, .int z)] := hl
  refine lv_aload_n hx hb dX2_protect_0 rfl (lv_at hl 0 rfl) ?_
  refine lv_iload_n hx hb dX2_protect_1 rfl (lv_at hl 1 rfl) ?_
  refine lv_iload_n hx hb dX2_protect_2 rfl (lv_at hl 2 rfl) ?_
  refine g_callV (As := [.int x, .int y]) (rest := []) (fs := [.ref (ad 1), .ref (ad 2), .int af, .int cf]) (hM) hx hb hml hown hts hN hG t_165 t_167 s_16 t_1 t_168 nm_X2_refusalOfMapped ⟨by decide, by decide⟩ fp_0 rfl hl.1 (Nat.le_of_ble_eq_true rfl) dX2_protect_3 ⟨Nat.zero_le _, Nat.zero_le _⟩ (fun H locs hG => ?_)
  refine W.eq (g2 := F0 m 6 ls [.int r]) rfl ?_
  refine lv_istore (lv' := [(4, .int r), (0, .ref (ad 0)), (1, .int x), (2, .int y), (3, .int z)]) hx hb dX2_protect_6 hl (by decide) rfl (fun ls hl => ?_)
  refine lv_iload hx hb dX2_protect_8 (lv_at hl 0 rfl) ?_
  refine lv_if_eq (tgt := 16) hx hb dX2_protect_10 rfl (fun hh => absurd hh (hr0)) (fun _ => ?_)
  refine lv_iload hx hb dX2_protect_13 (lv_at hl 0 rfl) ?_
  exact g_iret hx hb hr hlk hG dX2_protect_15
set_option maxHeartbeats 4000000 in
set_option maxRecDepth 100000 in
theorem fp_unmap_ok {j k : Nat} (hj : j < 5) (hk : k < 64) (h : run j = true) (h2 : mp j k = true) (hf : fr j k < 24) : gM l yX2_unmap cX2_unmap 5 (some .int) 4 90 D cls (fpT cI cQ cZ) A (fpW ad cI cQ run mp fr kd wd ct af cf) [.ref (ad 0), .int (nI j), .int (nI k)] (some (.int (frF run (up1 mp j (up1 (mp j) k false)) (upd ct (fr j k) (ct (fr j k) - 1)) - frF run mp ct))) (fpW ad cI cQ run (up1 mp j (up1 (mp j) k false)) fr kd wd (upd ct (fr j k) (ct (fr j k) - 1)) af cf) := by
  refine gM_of (by decide) (Nat.le_of_ble_eq_true rfl) ?_
  intro p e s m args below meth c ls hx hb hml hown hts hN hr hlk hl hG
  have hown : s.vm.findClass RX2 = some m.cls := hown
  have hl : lv_has ls 5 [(0, .ref (ad 0)), (1, .int (nI j)), (2, .int (nI k))] := hl
  refine lv_aload_n hx hb dX2_unmap_0 rfl (lv_at hl 0 rfl) ?_
  refine lv_iload_n hx hb dX2_unmap_1 rfl (lv_at hl 1 rfl) ?_
  refine lv_iload_n hx hb dX2_unmap_2 rfl (lv_at hl 2 rfl) ?_
  refine g_callV (As := [.int (nI j), .int (nI k)]) (rest := []) (fs := [.ref (ad 1), .ref (ad 2), .int af, .int cf]) (fm_rM_0 hj h hk h2) hx hb hml hown hts hN hG t_165 t_167 s_16 t_1 t_168 nm_X2_refusalOfMapped ⟨by decide, by decide⟩ fp_0 rfl hl.1 (Nat.le_of_ble_eq_true rfl) dX2_unmap_3 ⟨Nat.zero_le _, Nat.zero_le _⟩ (fun H locs hG => ?_)
  refine W.eq (g2 := F0 m 6 ls [.int 0]) rfl ?_
  refine lv_istore_n (lv' := [(3, .int 0), (0, .ref (ad 0)), (1, .int (nI j)), (2, .int (nI k))]) hx hb dX2_unmap_6 rfl hl (by decide) rfl (fun ls hl => ?_)
  refine lv_iload_n hx hb dX2_unmap_7 rfl (lv_at hl 0 rfl) ?_
  refine lv_if_eq (tgt := 13) hx hb dX2_unmap_8 rfl (fun _ => ?_) (fun hh => absurd (rfl) hh)
  refine lv_aload_n hx hb dX2_unmap_13 rfl (lv_at hl 1 rfl) ?_
  refine g_callV (As := []) (rest := []) (fs := [.ref (ad 1), .ref (ad 2), .int af, .int cf]) (fm_freeFrames) hx hb hml hown hts hN hG t_74 t_76 s_1 t_1 t_77 nm_X2_freeFrames ⟨by decide, by decide⟩ fp_0 rfl hl.1 (Nat.le_of_ble_eq_true rfl) dX2_unmap_14 ⟨Nat.zero_le _, Nat.zero_le _⟩ (fun H locs hG => ?_)
  refine W.eq (g2 := F0 m 17 ls [.int (frF run mp ct)]) rfl ?_
  refine lv_istore (lv' := [(4, .int (frF run mp ct)), (3, .int 0), (0, .ref (ad 0)), (1, .int (nI j)), (2, .int (nI k))]) hx hb dX2_unmap_17 hl (by decide) rfl (fun ls hl => ?_)
  refine lv_aload_n hx hb dX2_unmap_19 rfl (lv_at hl 2 rfl) ?_
  refine lv_aload_n hx hb dX2_unmap_20 rfl (lv_at hl 2 rfl) ?_
  refine g_get (k := 0) (v := .ref (ad 1)) (C := RX2) (ref := RX2) (fs := [.ref (ad 1), .ref (ad 2), .int af, .int cf]) hx hb hown hts hG gX2 rfl fp_0 (by decide) t_53 rfl rfl dX2_unmap_21 ?_
  refine lv_iload_n hx hb dX2_unmap_24 rfl (lv_at hl 3 rfl) ?_
  refine g_aald (i := j) (t0 := 1) hx hb hG fp_1 rfl (hj) (by decide) rfl dX2_unmap_25 ?_
  refine lv_iload_n hx hb dX2_unmap_26 rfl (lv_at hl 4 rfl) ?_
  refine g_callV (As := [.ref (ad (5 + 3 * j)), .int (nI k)]) (rest := []) (fs := [.ref (ad 1), .ref (ad 2), .int af, .int cf]) (fm_endMapping hj hk hf) hx hb hml hown hts hN hG t_129 t_131 s_11 t_1 t_132 nm_X2_endMapping ⟨by decide, by decide⟩ fp_0 rfl hl.1 (Nat.le_of_ble_eq_true rfl) dX2_unmap_27 ⟨Nat.zero_le _, Nat.zero_le _⟩ (fun H locs hG => ?_)
  refine W.eq (g2 := F0 m 30 ls []) rfl ?_
  refine lv_aload_n hx hb dX2_unmap_30 rfl (lv_at hl 2 rfl) ?_
  refine g_callV (As := []) (rest := []) (fs := [.ref (ad 1), .ref (ad 2), .int af, .int cf]) (fm_freeFrames) hx hb hml hown hts hN hG t_74 t_76 s_1 t_1 t_77 nm_X2_freeFrames ⟨by decide, by decide⟩ fp_0 rfl hl.1 (Nat.le_of_ble_eq_true rfl) dX2_unmap_31 ⟨Nat.zero_le _, Nat.zero_le _⟩ (fun H locs hG => ?_)
  refine W.eq (g2 := F0 m 34 ls [.int (frF run (up1 mp j (up1 (mp j) k false)) (upd ct (fr j k) (ct (fr j k) - 1)))]) rfl ?_
  refine lv_iload hx hb dX2_unmap_34 (lv_at hl 0 rfl) ?_
  refine lv_isub hx hb dX2_unmap_36 ?_
  exact g_iret hx hb hr hlk hG dX2_unmap_37
set_option maxHeartbeats 4000000 in
set_option maxRecDepth 100000 in
theorem fp_count_ok {j k : Nat} (hj : j < 5) (hk : k < 64) (h : run j = true) (h2 : mp j k = true) (hf : fr j k < 24) : gM l yX2_count cX2_count 4 (some .int) 2 43 D cls (fpT cI cQ cZ) A (fpW ad cI cQ run mp fr kd wd ct af cf) [.ref (ad 0), .int (nI j), .int (nI k)] (some (.int (ct (fr j k)))) (fpW ad cI cQ run mp fr kd wd ct af cf) := by
  refine gM_of (by decide) (Nat.le_of_ble_eq_true rfl) ?_
  intro p e s m args below meth c ls hx hb hml hown hts hN hr hlk hl hG
  have hown : s.vm.findClass RX2 = some m.cls := hown
  have hl : lv_has ls 4 [(0, .ref (ad 0)), (1, .int (nI j)), (2, .int (nI k))] := hl
  refine lv_aload_n hx hb dX2_count_0 rfl (lv_at hl 0 rfl) ?_
  refine lv_iload_n hx hb dX2_count_1 rfl (lv_at hl 1 rfl) ?_
  refine lv_iload_n hx hb dX2_count_2 rfl (lv_at hl 2 rfl) ?_
  refine g_callV (As := [.int (nI j), .int (nI k)]) (rest := []) (fs := [.ref (ad 1), .ref (ad 2), .int af, .int cf]) (fm_rM_0 hj h hk h2) hx hb hml hown hts hN hG t_165 t_167 s_16 t_1 t_168 nm_X2_refusalOfMapped ⟨by decide, by decide⟩ fp_0 rfl hl.1 (Nat.le_of_ble_eq_true rfl) dX2_count_3 ⟨Nat.zero_le _, Nat.zero_le _⟩ (fun H locs hG => ?_)
  refine W.eq (g2 := F0 m 6 ls [.int 0]) rfl ?_
  refine lv_istore_n (lv' := [(3, .int 0), (0, .ref (ad 0)), (1, .int (nI j)), (2, .int (nI k))]) hx hb dX2_count_6 rfl hl (by decide) rfl (fun ls hl => ?_)
  refine lv_iload_n hx hb dX2_count_7 rfl (lv_at hl 0 rfl) ?_
  refine lv_if_eq (tgt := 13) hx hb dX2_count_8 rfl (fun _ => ?_) (fun hh => absurd (rfl) hh)
  refine lv_aload_n hx hb dX2_count_13 rfl (lv_at hl 1 rfl) ?_
  refine g_get (k := 1) (v := .ref (ad 2)) (C := RX2) (ref := RX2) (fs := [.ref (ad 1), .ref (ad 2), .int af, .int cf]) hx hb hown hts hG gX2 rfl fp_0 (by decide) t_54 rfl rfl dX2_count_14 ?_
  refine g_getN (k := 1) (v := .ref (ad 4)) (C := RX1) (ref := RX1) (fs := [.ref (ad 3), .ref (ad 4)]) hx hb hown hts hN hG gX1 rfl fp_2 (by decide) t_47 rfl rfl dX2_count_17 ?_
  refine lv_aload_n hx hb dX2_count_20 rfl (lv_at hl 1 rfl) ?_
  refine g_get (k := 0) (v := .ref (ad 1)) (C := RX2) (ref := RX2) (fs := [.ref (ad 1), .ref (ad 2), .int af, .int cf]) hx hb hown hts hG gX2 rfl fp_0 (by decide) t_53 rfl rfl dX2_count_21 ?_
  refine lv_iload_n hx hb dX2_count_24 rfl (lv_at hl 2 rfl) ?_
  refine g_aald (i := j) (t0 := 1) hx hb hG fp_1 rfl (hj) (by decide) rfl dX2_count_25 ?_
  refine g_getN (k := 2) (v := .ref (ad (6 + 3 * j))) (C := RX0) (ref := RX0) (fs := [.int (bI (run j)), .long (en (mp j)), .ref (ad (6 + 3 * j)), .ref (ad (7 + 3 * j))]) hx hb hown hts hN hG gX0 rfl (fp_5 (hj)) (by decide) t_25 rfl rfl dX2_count_26 ?_
  refine lv_iload_n hx hb dX2_count_29 rfl (lv_at hl 3 rfl) ?_
  refine g_iald (i := k) (t0 := 0) hx hb hG (fp_6 (hj)) rfl (hk) (by decide) dX2_count_30 ?_
  refine g_iald (i := (fr j k)) (t0 := 0) hx hb hG fp_4 rfl (hf) (by decide) dX2_count_31 ?_
  exact g_iret hx hb hr hlk hG dX2_count_32
set_option maxHeartbeats 4000000 in
set_option maxRecDepth 100000 in
theorem fp_mapping_ok {j k : Nat} (hj : j < 5) (hk : k < 64) (h : run j = true) (h2 : mp j k = true)  : gM l yX2_mapping cX2_mapping 4 (some .int) 2 43 D cls (fpT cI cQ cZ) A (fpW ad cI cQ run mp fr kd wd ct af cf) [.ref (ad 0), .int (nI j), .int (nI k)] (some (.int (kd j k))) (fpW ad cI cQ run mp fr kd wd ct af cf) := by
  refine gM_of (by decide) (Nat.le_of_ble_eq_true rfl) ?_
  intro p e s m args below meth c ls hx hb hml hown hts hN hr hlk hl hG
  have hown : s.vm.findClass RX2 = some m.cls := hown
  have hl : lv_has ls 4 [(0, .ref (ad 0)), (1, .int (nI j)), (2, .int (nI k))] := hl
  refine lv_aload_n hx hb dX2_mapping_0 rfl (lv_at hl 0 rfl) ?_
  refine lv_iload_n hx hb dX2_mapping_1 rfl (lv_at hl 1 rfl) ?_
  refine lv_iload_n hx hb dX2_mapping_2 rfl (lv_at hl 2 rfl) ?_
  refine g_callV (As := [.int (nI j), .int (nI k)]) (rest := []) (fs := [.ref (ad 1), .ref (ad 2), .int af, .int cf]) (fm_rM_0 hj h hk h2) hx hb hml hown hts hN hG t_165 t_167 s_16 t_1 t_168 nm_X2_refusalOfMapped ⟨by decide, by decide⟩ fp_0 rfl hl.1 (Nat.le_of_ble_eq_true rfl) dX2_mapping_3 ⟨Nat.zero_le _, Nat.zero_le _⟩ (fun H locs hG => ?_)
  refine W.eq (g2 := F0 m 6 ls [.int 0]) rfl ?_
  refine lv_istore_n (lv' := [(3, .int 0), (0, .ref (ad 0)), (1, .int (nI j)), (2, .int (nI k))]) hx hb dX2_mapping_6 rfl hl (by decide) rfl (fun ls hl => ?_)
  refine lv_iload_n hx hb dX2_mapping_7 rfl (lv_at hl 0 rfl) ?_
  refine lv_if_eq (tgt := 13) hx hb dX2_mapping_8 rfl (fun _ => ?_) (fun hh => absurd (rfl) hh)
  refine lv_aload_n hx hb dX2_mapping_13 rfl (lv_at hl 1 rfl) ?_
  refine g_get (k := 0) (v := .ref (ad 1)) (C := RX2) (ref := RX2) (fs := [.ref (ad 1), .ref (ad 2), .int af, .int cf]) hx hb hown hts hG gX2 rfl fp_0 (by decide) t_53 rfl rfl dX2_mapping_14 ?_
  refine lv_iload_n hx hb dX2_mapping_17 rfl (lv_at hl 2 rfl) ?_
  refine g_aald (i := j) (t0 := 1) hx hb hG fp_1 rfl (hj) (by decide) rfl dX2_mapping_18 ?_
  refine g_getN (k := 3) (v := .ref (ad (7 + 3 * j))) (C := RX0) (ref := RX0) (fs := [.int (bI (run j)), .long (en (mp j)), .ref (ad (6 + 3 * j)), .ref (ad (7 + 3 * j))]) hx hb hown hts hN hG gX0 rfl (fp_5 (hj)) (by decide) t_27 rfl rfl dX2_mapping_19 ?_
  refine lv_iload_n hx hb dX2_mapping_22 rfl (lv_at hl 3 rfl) ?_
  refine g_iald (i := k) (t0 := 0) hx hb hG (fp_7 (hj)) rfl (hk) (by decide) dX2_mapping_23 ?_
  exact g_iret hx hb hr hlk hG dX2_mapping_24
set_option maxHeartbeats 4000000 in
set_option maxRecDepth 100000 in
theorem fp_protect_t0 {j k : Nat} (hj : j < 5) (hk : k < 64) (h : run j = true) (h2 : mp j k = true) {z : Int32} (h3 : ¬ kd j k &&& 1 = 0) (h4 : z = 1) : gM l yX2_protect cX2_protect 6 (some .int) 2 43 D cls (fpT cI cQ cZ) A (fpW ad cI cQ run mp fr kd wd ct af cf) [.ref (ad 0), .int (nI j), .int (nI k), .int z] (some (.int 0)) (fpW ad cI cQ run mp fr kd wd ct af cf) := by
  refine gM_of (by decide) (Nat.le_of_ble_eq_true rfl) ?_
  intro p e s m args below meth c ls hx hb hml hown hts hN hr hlk hl hG
  have hown : s.vm.findClass RX2 = some m.cls := hown
  have hl : lv_has ls 6 [(0, .ref (ad 0)), (1, .int (nI j)), (2, .int (nI k)), (3, .int z)] := hl
  refine lv_aload_n hx hb dX2_protect_0 rfl (lv_at hl 0 rfl) ?_
  refine lv_iload_n hx hb dX2_protect_1 rfl (lv_at hl 1 rfl) ?_
  refine lv_iload_n hx hb dX2_protect_2 rfl (lv_at hl 2 rfl) ?_
  refine g_callV (As := [.int (nI j), .int (nI k)]) (rest := []) (fs := [.ref (ad 1), .ref (ad 2), .int af, .int cf]) (fm_rM_0 hj h hk h2) hx hb hml hown hts hN hG t_165 t_167 s_16 t_1 t_168 nm_X2_refusalOfMapped ⟨by decide, by decide⟩ fp_0 rfl hl.1 (Nat.le_of_ble_eq_true rfl) dX2_protect_3 ⟨Nat.zero_le _, Nat.zero_le _⟩ (fun H locs hG => ?_)
  refine W.eq (g2 := F0 m 6 ls [.int 0]) rfl ?_
  refine lv_istore (lv' := [(4, .int 0), (0, .ref (ad 0)), (1, .int (nI j)), (2, .int (nI k)), (3, .int z)]) hx hb dX2_protect_6 hl (by decide) rfl (fun ls hl => ?_)
  refine lv_iload hx hb dX2_protect_8 (lv_at hl 0 rfl) ?_
  refine lv_if_eq (tgt := 16) hx hb dX2_protect_10 rfl (fun _ => ?_) (fun hh => absurd (rfl) hh)
  refine lv_aload_n hx hb dX2_protect_16 rfl (lv_at hl 1 rfl) ?_
  refine g_get (k := 0) (v := .ref (ad 1)) (C := RX2) (ref := RX2) (fs := [.ref (ad 1), .ref (ad 2), .int af, .int cf]) hx hb hown hts hG gX2 rfl fp_0 (by decide) t_53 rfl rfl dX2_protect_17 ?_
  refine lv_iload_n hx hb dX2_protect_20 rfl (lv_at hl 2 rfl) ?_
  refine g_aald (i := j) (t0 := 1) hx hb hG fp_1 rfl (hj) (by decide) rfl dX2_protect_21 ?_
  refine lv_astore (lv' := [(5, .ref (ad (5 + 3 * j))), (4, .int 0), (0, .ref (ad 0)), (1, .int (nI j)), (2, .int (nI k)), (3, .int z)]) hx hb dX2_protect_22 hl (by decide) rfl (fun ls hl => ?_)
  refine lv_aload hx hb dX2_protect_24 (lv_at hl 0 rfl) ?_
  refine lv_iconst (v := 1) hx hb dX2_protect_26 (by decide) ?_
  refine lv_iload_n hx hb dX2_protect_27 rfl (lv_at hl 4 rfl) ?_
  refine g_callVN (As := [.int 1, .int (nI k)]) (rest := []) (fs := [.int (bI (run j)), .long (en (mp j)), .ref (ad (6 + 3 * j)), .ref (ad (7 + 3 * j))]) (fm_is_t hj hk h3) hx hb hml hown hts hN hG t_109 t_111 s_7 t_2 t_112 nm_X0_is ⟨by decide, by decide⟩ (fp_5 (hj)) rfl hl.1 (Nat.le_of_ble_eq_true rfl) dX2_protect_28 ⟨Nat.zero_le _, Nat.zero_le _⟩ (fun H locs hG => ?_)
  refine W.eq (g2 := F0 m 31 ls [.int 1]) rfl ?_
  refine lv_iload_n hx hb dX2_protect_31 rfl (lv_at hl 5 rfl) ?_
  refine lv_icmp_ne (tgt := 37) hx hb dX2_protect_32 rfl (fun hh => absurd (h4.symm) hh) (fun _ => ?_)
  refine lv_iconst (v := 0) hx hb dX2_protect_35 (by decide) ?_
  exact g_iret hx hb hr hlk hG dX2_protect_36
set_option maxHeartbeats 4000000 in
set_option maxRecDepth 100000 in
theorem fp_protect_f0 {j k : Nat} (hj : j < 5) (hk : k < 64) (h : run j = true) (h2 : mp j k = true) {z : Int32} (h3 : kd j k &&& 1 = 0) (h4 : z = 0) : gM l yX2_protect cX2_protect 6 (some .int) 2 43 D cls (fpT cI cQ cZ) A (fpW ad cI cQ run mp fr kd wd ct af cf) [.ref (ad 0), .int (nI j), .int (nI k), .int z] (some (.int 0)) (fpW ad cI cQ run mp fr kd wd ct af cf) := by
  refine gM_of (by decide) (Nat.le_of_ble_eq_true rfl) ?_
  intro p e s m args below meth c ls hx hb hml hown hts hN hr hlk hl hG
  have hown : s.vm.findClass RX2 = some m.cls := hown
  have hl : lv_has ls 6 [(0, .ref (ad 0)), (1, .int (nI j)), (2, .int (nI k)), (3, .int z)] := hl
  refine lv_aload_n hx hb dX2_protect_0 rfl (lv_at hl 0 rfl) ?_
  refine lv_iload_n hx hb dX2_protect_1 rfl (lv_at hl 1 rfl) ?_
  refine lv_iload_n hx hb dX2_protect_2 rfl (lv_at hl 2 rfl) ?_
  refine g_callV (As := [.int (nI j), .int (nI k)]) (rest := []) (fs := [.ref (ad 1), .ref (ad 2), .int af, .int cf]) (fm_rM_0 hj h hk h2) hx hb hml hown hts hN hG t_165 t_167 s_16 t_1 t_168 nm_X2_refusalOfMapped ⟨by decide, by decide⟩ fp_0 rfl hl.1 (Nat.le_of_ble_eq_true rfl) dX2_protect_3 ⟨Nat.zero_le _, Nat.zero_le _⟩ (fun H locs hG => ?_)
  refine W.eq (g2 := F0 m 6 ls [.int 0]) rfl ?_
  refine lv_istore (lv' := [(4, .int 0), (0, .ref (ad 0)), (1, .int (nI j)), (2, .int (nI k)), (3, .int z)]) hx hb dX2_protect_6 hl (by decide) rfl (fun ls hl => ?_)
  refine lv_iload hx hb dX2_protect_8 (lv_at hl 0 rfl) ?_
  refine lv_if_eq (tgt := 16) hx hb dX2_protect_10 rfl (fun _ => ?_) (fun hh => absurd (rfl) hh)
  refine lv_aload_n hx hb dX2_protect_16 rfl (lv_at hl 1 rfl) ?_
  refine g_get (k := 0) (v := .ref (ad 1)) (C := RX2) (ref := RX2) (fs := [.ref (ad 1), .ref (ad 2), .int af, .int cf]) hx hb hown hts hG gX2 rfl fp_0 (by decide) t_53 rfl rfl dX2_protect_17 ?_
  refine lv_iload_n hx hb dX2_protect_20 rfl (lv_at hl 2 rfl) ?_
  refine g_aald (i := j) (t0 := 1) hx hb hG fp_1 rfl (hj) (by decide) rfl dX2_protect_21 ?_
  refine lv_astore (lv' := [(5, .ref (ad (5 + 3 * j))), (4, .int 0), (0, .ref (ad 0)), (1, .int (nI j)), (2, .int (nI k)), (3, .int z)]) hx hb dX2_protect_22 hl (by decide) rfl (fun ls hl => ?_)
  refine lv_aload hx hb dX2_protect_24 (lv_at hl 0 rfl) ?_
  refine lv_iconst (v := 1) hx hb dX2_protect_26 (by decide) ?_
  refine lv_iload_n hx hb dX2_protect_27 rfl (lv_at hl 4 rfl) ?_
  refine g_callVN (As := [.int 1, .int (nI k)]) (rest := []) (fs := [.int (bI (run j)), .long (en (mp j)), .ref (ad (6 + 3 * j)), .ref (ad (7 + 3 * j))]) (fm_is_f hj hk h3) hx hb hml hown hts hN hG t_109 t_111 s_7 t_2 t_112 nm_X0_is ⟨by decide, by decide⟩ (fp_5 (hj)) rfl hl.1 (Nat.le_of_ble_eq_true rfl) dX2_protect_28 ⟨Nat.zero_le _, Nat.zero_le _⟩ (fun H locs hG => ?_)
  refine W.eq (g2 := F0 m 31 ls [.int 0]) rfl ?_
  refine lv_iload_n hx hb dX2_protect_31 rfl (lv_at hl 5 rfl) ?_
  refine lv_icmp_ne (tgt := 37) hx hb dX2_protect_32 rfl (fun hh => absurd (h4.symm) hh) (fun _ => ?_)
  refine lv_iconst (v := 0) hx hb dX2_protect_35 (by decide) ?_
  exact g_iret hx hb hr hlk hG dX2_protect_36
set_option maxHeartbeats 4000000 in
set_option maxRecDepth 100000 in
theorem fp_protect_t1 {j k : Nat} (hj : j < 5) (hk : k < 64) (h : run j = true) (h2 : mp j k = true) {z : Int32} (h3 : ¬ kd j k &&& 1 = 0) (h4 : ¬ z = 1) : gM l yX2_protect cX2_protect 6 (some .int) 2 43 D cls (fpT cI cQ cZ) A (fpW ad cI cQ run mp fr kd wd ct af cf) [.ref (ad 0), .int (nI j), .int (nI k), .int z] (some (.int 1)) (fpW ad cI cQ run mp fr (up1 kd j (upd (kd j) k (kd j k ^^^ 1))) wd ct af cf) := by
  refine gM_of (by decide) (Nat.le_of_ble_eq_true rfl) ?_
  intro p e s m args below meth c ls hx hb hml hown hts hN hr hlk hl hG
  have hown : s.vm.findClass RX2 = some m.cls := hown
  have hl : lv_has ls 6 [(0, .ref (ad 0)), (1, .int (nI j)), (2, .int (nI k)), (3, .int z)] := hl
  refine lv_aload_n hx hb dX2_protect_0 rfl (lv_at hl 0 rfl) ?_
  refine lv_iload_n hx hb dX2_protect_1 rfl (lv_at hl 1 rfl) ?_
  refine lv_iload_n hx hb dX2_protect_2 rfl (lv_at hl 2 rfl) ?_
  refine g_callV (As := [.int (nI j), .int (nI k)]) (rest := []) (fs := [.ref (ad 1), .ref (ad 2), .int af, .int cf]) (fm_rM_0 hj h hk h2) hx hb hml hown hts hN hG t_165 t_167 s_16 t_1 t_168 nm_X2_refusalOfMapped ⟨by decide, by decide⟩ fp_0 rfl hl.1 (Nat.le_of_ble_eq_true rfl) dX2_protect_3 ⟨Nat.zero_le _, Nat.zero_le _⟩ (fun H locs hG => ?_)
  refine W.eq (g2 := F0 m 6 ls [.int 0]) rfl ?_
  refine lv_istore (lv' := [(4, .int 0), (0, .ref (ad 0)), (1, .int (nI j)), (2, .int (nI k)), (3, .int z)]) hx hb dX2_protect_6 hl (by decide) rfl (fun ls hl => ?_)
  refine lv_iload hx hb dX2_protect_8 (lv_at hl 0 rfl) ?_
  refine lv_if_eq (tgt := 16) hx hb dX2_protect_10 rfl (fun _ => ?_) (fun hh => absurd (rfl) hh)
  refine lv_aload_n hx hb dX2_protect_16 rfl (lv_at hl 1 rfl) ?_
  refine g_get (k := 0) (v := .ref (ad 1)) (C := RX2) (ref := RX2) (fs := [.ref (ad 1), .ref (ad 2), .int af, .int cf]) hx hb hown hts hG gX2 rfl fp_0 (by decide) t_53 rfl rfl dX2_protect_17 ?_
  refine lv_iload_n hx hb dX2_protect_20 rfl (lv_at hl 2 rfl) ?_
  refine g_aald (i := j) (t0 := 1) hx hb hG fp_1 rfl (hj) (by decide) rfl dX2_protect_21 ?_
  refine lv_astore (lv' := [(5, .ref (ad (5 + 3 * j))), (4, .int 0), (0, .ref (ad 0)), (1, .int (nI j)), (2, .int (nI k)), (3, .int z)]) hx hb dX2_protect_22 hl (by decide) rfl (fun ls hl => ?_)
  refine lv_aload hx hb dX2_protect_24 (lv_at hl 0 rfl) ?_
  refine lv_iconst (v := 1) hx hb dX2_protect_26 (by decide) ?_
  refine lv_iload_n hx hb dX2_protect_27 rfl (lv_at hl 4 rfl) ?_
  refine g_callVN (As := [.int 1, .int (nI k)]) (rest := []) (fs := [.int (bI (run j)), .long (en (mp j)), .ref (ad (6 + 3 * j)), .ref (ad (7 + 3 * j))]) (fm_is_t hj hk h3) hx hb hml hown hts hN hG t_109 t_111 s_7 t_2 t_112 nm_X0_is ⟨by decide, by decide⟩ (fp_5 (hj)) rfl hl.1 (Nat.le_of_ble_eq_true rfl) dX2_protect_28 ⟨Nat.zero_le _, Nat.zero_le _⟩ (fun H locs hG => ?_)
  refine W.eq (g2 := F0 m 31 ls [.int 1]) rfl ?_
  refine lv_iload_n hx hb dX2_protect_31 rfl (lv_at hl 5 rfl) ?_
  refine lv_icmp_ne (tgt := 37) hx hb dX2_protect_32 rfl (fun _ => ?_) (fun hh => absurd hh (fun q => h4 q.symm))
  refine lv_aload hx hb dX2_protect_37 (lv_at hl 0 rfl) ?_
  refine lv_iconst (v := 1) hx hb dX2_protect_39 (by decide) ?_
  refine lv_iload_n hx hb dX2_protect_40 rfl (lv_at hl 4 rfl) ?_
  refine g_callVN (As := [.int 1, .int (nI k)]) (rest := []) (fs := [.int (bI (run j)), .long (en (mp j)), .ref (ad (6 + 3 * j)), .ref (ad (7 + 3 * j))]) (fm_turn hj hk) hx hb hml hown hts hN hG t_113 t_115 s_8 t_2 t_116 nm_X0_turn ⟨by decide, by decide⟩ (fp_5 (hj)) rfl hl.1 (Nat.le_of_ble_eq_true rfl) dX2_protect_41 ⟨Nat.zero_le _, Nat.zero_le _⟩ (fun H locs hG => ?_)
  refine W.eq (g2 := F0 m 44 ls []) rfl ?_
  refine lv_iconst (v := 1) hx hb dX2_protect_44 (by decide) ?_
  exact g_iret hx hb hr hlk hG dX2_protect_45
set_option maxHeartbeats 4000000 in
set_option maxRecDepth 100000 in
theorem fp_protect_f1 {j k : Nat} (hj : j < 5) (hk : k < 64) (h : run j = true) (h2 : mp j k = true) {z : Int32} (h3 : kd j k &&& 1 = 0) (h4 : ¬ z = 0) : gM l yX2_protect cX2_protect 6 (some .int) 2 43 D cls (fpT cI cQ cZ) A (fpW ad cI cQ run mp fr kd wd ct af cf) [.ref (ad 0), .int (nI j), .int (nI k), .int z] (some (.int 1)) (fpW ad cI cQ run mp fr (up1 kd j (upd (kd j) k (kd j k ^^^ 1))) wd ct af cf) := by
  refine gM_of (by decide) (Nat.le_of_ble_eq_true rfl) ?_
  intro p e s m args below meth c ls hx hb hml hown hts hN hr hlk hl hG
  have hown : s.vm.findClass RX2 = some m.cls := hown
  have hl : lv_has ls 6 [(0, .ref (ad 0)), (1, .int (nI j)), (2, .int (nI k)), (3, .int z)] := hl
  refine lv_aload_n hx hb dX2_protect_0 rfl (lv_at hl 0 rfl) ?_
  refine lv_iload_n hx hb dX2_protect_1 rfl (lv_at hl 1 rfl) ?_
  refine lv_iload_n hx hb dX2_protect_2 rfl (lv_at hl 2 rfl) ?_
  refine g_callV (As := [.int (nI j), .int (nI k)]) (rest := []) (fs := [.ref (ad 1), .ref (ad 2), .int af, .int cf]) (fm_rM_0 hj h hk h2) hx hb hml hown hts hN hG t_165 t_167 s_16 t_1 t_168 nm_X2_refusalOfMapped ⟨by decide, by decide⟩ fp_0 rfl hl.1 (Nat.le_of_ble_eq_true rfl) dX2_protect_3 ⟨Nat.zero_le _, Nat.zero_le _⟩ (fun H locs hG => ?_)
  refine W.eq (g2 := F0 m 6 ls [.int 0]) rfl ?_
  refine lv_istore (lv' := [(4, .int 0), (0, .ref (ad 0)), (1, .int (nI j)), (2, .int (nI k)), (3, .int z)]) hx hb dX2_protect_6 hl (by decide) rfl (fun ls hl => ?_)
  refine lv_iload hx hb dX2_protect_8 (lv_at hl 0 rfl) ?_
  refine lv_if_eq (tgt := 16) hx hb dX2_protect_10 rfl (fun _ => ?_) (fun hh => absurd (rfl) hh)
  refine lv_aload_n hx hb dX2_protect_16 rfl (lv_at hl 1 rfl) ?_
  refine g_get (k := 0) (v := .ref (ad 1)) (C := RX2) (ref := RX2) (fs := [.ref (ad 1), .ref (ad 2), .int af, .int cf]) hx hb hown hts hG gX2 rfl fp_0 (by decide) t_53 rfl rfl dX2_protect_17 ?_
  refine lv_iload_n hx hb dX2_protect_20 rfl (lv_at hl 2 rfl) ?_
  refine g_aald (i := j) (t0 := 1) hx hb hG fp_1 rfl (hj) (by decide) rfl dX2_protect_21 ?_
  refine lv_astore (lv' := [(5, .ref (ad (5 + 3 * j))), (4, .int 0), (0, .ref (ad 0)), (1, .int (nI j)), (2, .int (nI k)), (3, .int z)]) hx hb dX2_protect_22 hl (by decide) rfl (fun ls hl => ?_)
  refine lv_aload hx hb dX2_protect_24 (lv_at hl 0 rfl) ?_
  refine lv_iconst (v := 1) hx hb dX2_protect_26 (by decide) ?_
  refine lv_iload_n hx hb dX2_protect_27 rfl (lv_at hl 4 rfl) ?_
  refine g_callVN (As := [.int 1, .int (nI k)]) (rest := []) (fs := [.int (bI (run j)), .long (en (mp j)), .ref (ad (6 + 3 * j)), .ref (ad (7 + 3 * j))]) (fm_is_f hj hk h3) hx hb hml hown hts hN hG t_109 t_111 s_7 t_2 t_112 nm_X0_is ⟨by decide, by decide⟩ (fp_5 (hj)) rfl hl.1 (Nat.le_of_ble_eq_true rfl) dX2_protect_28 ⟨Nat.zero_le _, Nat.zero_le _⟩ (fun H locs hG => ?_)
  refine W.eq (g2 := F0 m 31 ls [.int 0]) rfl ?_
  refine lv_iload_n hx hb dX2_protect_31 rfl (lv_at hl 5 rfl) ?_
  refine lv_icmp_ne (tgt := 37) hx hb dX2_protect_32 rfl (fun _ => ?_) (fun hh => absurd hh (fun q => h4 q.symm))
  refine lv_aload hx hb dX2_protect_37 (lv_at hl 0 rfl) ?_
  refine lv_iconst (v := 1) hx hb dX2_protect_39 (by decide) ?_
  refine lv_iload_n hx hb dX2_protect_40 rfl (lv_at hl 4 rfl) ?_
  refine g_callVN (As := [.int 1, .int (nI k)]) (rest := []) (fs := [.int (bI (run j)), .long (en (mp j)), .ref (ad (6 + 3 * j)), .ref (ad (7 + 3 * j))]) (fm_turn hj hk) hx hb hml hown hts hN hG t_113 t_115 s_8 t_2 t_116 nm_X0_turn ⟨by decide, by decide⟩ (fp_5 (hj)) rfl hl.1 (Nat.le_of_ble_eq_true rfl) dX2_protect_41 ⟨Nat.zero_le _, Nat.zero_le _⟩ (fun H locs hG => ?_)
  refine W.eq (g2 := F0 m 44 ls []) rfl ?_
  refine lv_iconst (v := 1) hx hb dX2_protect_44 (by decide) ?_
  exact g_iret hx hb hr hlk hG dX2_protect_45
end CM
end
section
section CM
variable {l : Launch} {D : va_G} {A : Nat → Prop} {ad : Nat → Nat} {cI cQ cZ : ClassId} {run : Nat → Bool} {mp : Nat → Nat → Bool} {fr : Nat → Nat → Nat} {kd : Nat → Nat → Int32} {wd ct : Nat → Int32} {af cf : Int32}
set_option maxHeartbeats 4000000 in
set_option maxRecDepth 100000 in
theorem fp_write_no {x a z r : Int32} (hr0 : ¬ r = 0) (hM : gM l yX2_refusalOfAddress cX2_refusalOfAddress 3 (some .int) 2 43 D cls (fpT cI cQ cZ) A (fpW ad cI cQ run mp fr kd wd ct af cf) [.ref (ad 0), .int x, .int a] (some (.int r)) (fpW ad cI cQ run mp fr kd wd ct af cf)) : gM l yX2_write cX2_write 8 (some .int) 5 116 D cls (fpT cI cQ cZ) A (fpW ad cI cQ run mp fr kd wd ct af cf) [.ref (ad 0), .int x, .int a, .int z] (some (.int r)) (fpW ad cI cQ run mp fr kd wd ct af cf) := by
  refine gM_of (by decide) (Nat.le_of_ble_eq_true rfl) ?_
  intro p e s m args below meth c ls hx hb hml hown hts hN hr hlk hl hG
  have hown : s.vm.findClass RX2 = some m.cls := hown
  have hl : lv_has ls 8 [(0, .ref (ad 0)), (1, .int x), (2, .int a), (3, .int z)] := hl
  refine lv_aload_n hx hb dX2_write_0 rfl (lv_at hl 0 rfl) ?_
  refine lv_iload_n hx hb dX2_write_1 rfl (lv_at hl 1 rfl) ?_
  refine lv_iload_n hx hb dX2_write_2 rfl (lv_at hl 2 rfl) ?_
  refine g_callV (As := [.int x, .int a]) (rest := []) (fs := [.ref (ad 1), .ref (ad 2), .int af, .int cf]) (hM) hx hb hml hown hts hN hG t_177 t_179 s_17 t_1 t_180 nm_X2_refusalOfAddress ⟨by decide, by decide⟩ fp_0 rfl hl.1 (Nat.le_of_ble_eq_true rfl) dX2_write_3 ⟨Nat.zero_le _, Nat.zero_le _⟩ (fun H locs hG => ?_)
  refine W.eq (g2 := F0 m 6 ls [.int r]) rfl ?_
  refine lv_istore (lv' := [(4, .int r), (0, .ref (ad 0)), (1, .int x), (2, .int a), (3, .int z)]) hx hb dX2_write_6 hl (by decide) rfl (fun ls hl => ?_)
  refine lv_iload hx hb dX2_write_8 (lv_at hl 0 rfl) ?_
  refine lv_if_eq (tgt := 16) hx hb dX2_write_10 rfl (fun hh => absurd hh (hr0)) (fun _ => ?_)
  refine lv_iload hx hb dX2_write_13 (lv_at hl 0 rfl) ?_
  exact g_iret hx hb hr hlk hG dX2_write_15
set_option maxHeartbeats 4000000 in
set_option maxRecDepth 100000 in
theorem fp_read_no {x a r : Int32} (hr0 : ¬ r = 0) (hM : gM l yX2_refusalOfAddress cX2_refusalOfAddress 3 (some .int) 2 43 D cls (fpT cI cQ cZ) A (fpW ad cI cQ run mp fr kd wd ct af cf) [.ref (ad 0), .int x, .int a] (some (.int r)) (fpW ad cI cQ run mp fr kd wd ct af cf)) : gM l yX2_read cX2_read 4 (some .long) 3 65 D cls (fpT cI cQ cZ) A (fpW ad cI cQ run mp fr kd wd ct af cf) [.ref (ad 0), .int x, .int a] (some (.long 1099511627776)) (fpW ad cI cQ run mp fr kd wd ct af cf) := by
  refine gM_of (by decide) (Nat.le_of_ble_eq_true rfl) ?_
  intro p e s m args below meth c ls hx hb hml hown hts hN hr hlk hl hG
  have hown : s.vm.findClass RX2 = some m.cls := hown
  have hl : lv_has ls 4 [(0, .ref (ad 0)), (1, .int x), (2, .int a)] := hl
  refine lv_aload_n hx hb dX2_read_0 rfl (lv_at hl 0 rfl) ?_
  refine lv_iload_n hx hb dX2_read_1 rfl (lv_at hl 1 rfl) ?_
  refine lv_iload_n hx hb dX2_read_2 rfl (lv_at hl 2 rfl) ?_
  refine g_callV (As := [.int x, .int a]) (rest := []) (fs := [.ref (ad 1), .ref (ad 2), .int af, .int cf]) (hM) hx hb hml hown hts hN hG t_177 t_179 s_17 t_1 t_180 nm_X2_refusalOfAddress ⟨by decide, by decide⟩ fp_0 rfl hl.1 (Nat.le_of_ble_eq_true rfl) dX2_read_3 ⟨Nat.zero_le _, Nat.zero_le _⟩ (fun H locs hG => ?_)
  refine W.eq (g2 := F0 m 6 ls [.int r]) rfl ?_
  refine lv_if_eq (tgt := 13) hx hb dX2_read_6 rfl (fun hh => absurd hh (hr0)) (fun _ => ?_)
  refine lv_ldc2 (v := 1099511627776) hx hb hown (hts _ t_193) dX2_read_9 ?_
  exact g_lret hx hb hr hlk hG dX2_read_12
set_option maxHeartbeats 4000000 in
set_option maxRecDepth 100000 in
theorem fp_read_ok {j q : Nat} (hj : j < 5) (hq : q < 256) (h : run j = true) (h2 : mp j (q / 4) = true) (hf : fr j (q / 4) < 24) : gM l yX2_read cX2_read 4 (some .long) 3 65 D cls (fpT cI cQ cZ) A (fpW ad cI cQ run mp fr kd wd ct af cf) [.ref (ad 0), .int (nI j), .int (nI q)] (some (.long ((wd (fr j (q / 4) * 4 + q % 4)).toInt64))) (fpW ad cI cQ run mp fr kd wd ct af cf) := by
  refine gM_of (by decide) (Nat.le_of_ble_eq_true rfl) ?_
  intro p e s m args below meth c ls hx hb hml hown hts hN hr hlk hl hG
  have hown : s.vm.findClass RX2 = some m.cls := hown
  have hl : lv_has ls 4 [(0, .ref (ad 0)), (1, .int (nI j)), (2, .int (nI q))] := hl
  refine lv_aload_n hx hb dX2_read_0 rfl (lv_at hl 0 rfl) ?_
  refine lv_iload_n hx hb dX2_read_1 rfl (lv_at hl 1 rfl) ?_
  refine lv_iload_n hx hb dX2_read_2 rfl (lv_at hl 2 rfl) ?_
  refine g_callV (As := [.int (nI j), .int (nI q)]) (rest := []) (fs := [.ref (ad 1), .ref (ad 2), .int af, .int cf]) (fm_rA_pos (nI_pos (Nat.lt_trans hq (by decide))) (by rw [pk_div (d := 4) (Nat.lt_trans hq (by decide)) (by decide) (by decide)]; exact fm_rM_0 hj h (by omega) h2)) hx hb hml hown hts hN hG t_177 t_179 s_17 t_1 t_180 nm_X2_refusalOfAddress ⟨by decide, by decide⟩ fp_0 rfl hl.1 (Nat.le_of_ble_eq_true rfl) dX2_read_3 ⟨Nat.zero_le _, Nat.zero_le _⟩ (fun H locs hG => ?_)
  refine W.eq (g2 := F0 m 6 ls [.int 0]) rfl ?_
  refine lv_if_eq (tgt := 13) hx hb dX2_read_6 rfl (fun _ => ?_) (fun hh => absurd (rfl) hh)
  refine lv_aload_n hx hb dX2_read_13 rfl (lv_at hl 0 rfl) ?_
  refine g_get (k := 0) (v := .ref (ad 1)) (C := RX2) (ref := RX2) (fs := [.ref (ad 1), .ref (ad 2), .int af, .int cf]) hx hb hown hts hG gX2 rfl fp_0 (by decide) t_53 rfl rfl dX2_read_14 ?_
  refine lv_iload_n hx hb dX2_read_17 rfl (lv_at hl 1 rfl) ?_
  refine g_aald (i := j) (t0 := 1) hx hb hG fp_1 rfl (hj) (by decide) rfl dX2_read_18 ?_
  refine g_getN (k := 2) (v := .ref (ad (6 + 3 * j))) (C := RX0) (ref := RX0) (fs := [.int (bI (run j)), .long (en (mp j)), .ref (ad (6 + 3 * j)), .ref (ad (7 + 3 * j))]) hx hb hown hts hN hG gX0 rfl (fp_5 (hj)) (by decide) t_25 rfl rfl dX2_read_19 ?_
  refine lv_iload_n hx hb dX2_read_22 rfl (lv_at hl 2 rfl) ?_
  refine lv_iconst (v := nI 4) hx hb dX2_read_23 (by decide) ?_
  refine lv_idiv hx hb dX2_read_24 (by decide) ?_
  refine g_top (y := nI (q / 4)) (pk_div (d := 4) (Nat.lt_trans hq (by decide)) (by decide) (by decide)) ?_
  refine g_iald (i := (q / 4)) (t0 := 0) hx hb hG (fp_6 (hj)) rfl ((by omega)) (by decide) dX2_read_25 ?_
  refine lv_istore_n (lv' := [(3, .int (nI (fr j (q / 4)))), (0, .ref (ad 0)), (1, .int (nI j)), (2, .int (nI q))]) hx hb dX2_read_26 rfl hl (by decide) rfl (fun ls hl => ?_)
  refine lv_aload_n hx hb dX2_read_27 rfl (lv_at hl 1 rfl) ?_
  refine g_get (k := 1) (v := .ref (ad 2)) (C := RX2) (ref := RX2) (fs := [.ref (ad 1), .ref (ad 2), .int af, .int cf]) hx hb hown hts hG gX2 rfl fp_0 (by decide) t_54 rfl rfl dX2_read_28 ?_
  refine g_getN (k := 0) (v := .ref (ad 3)) (C := RX1) (ref := RX1) (fs := [.ref (ad 3), .ref (ad 4)]) hx hb hown hts hN hG gX1 rfl fp_2 (by decide) t_45 rfl rfl dX2_read_31 ?_
  refine lv_iload_n hx hb dX2_read_34 rfl (lv_at hl 0 rfl) ?_
  refine lv_iconst (v := nI 4) hx hb dX2_read_35 (by decide) ?_
  refine lv_imul hx hb dX2_read_36 ?_
  refine g_top (y := nI (fr j (q / 4) * 4)) (pk_mul _ 4) ?_
  refine lv_iload_n hx hb dX2_read_37 rfl (lv_at hl 3 rfl) ?_
  refine lv_iconst (v := nI 4) hx hb dX2_read_38 (by decide) ?_
  refine lv_irem hx hb dX2_read_39 (by decide) ?_
  refine g_top (y := nI (q % 4)) (pk_rem (d := 4) (Nat.lt_trans hq (by decide)) (by decide) (by decide)) ?_
  refine lv_iadd hx hb dX2_read_40 ?_
  refine g_top (y := nI (fr j (q / 4) * 4 + q % 4)) (nI_add _ _) ?_
  refine g_iald (i := (fr j (q / 4) * 4 + q % 4)) (t0 := 0) hx hb hG fp_3 rfl ((by omega)) (by decide) dX2_read_41 ?_
  refine lv_i2l (v := (wd (fr j (q / 4) * 4 + q % 4)).toInt64) hx hb dX2_read_42 rfl ?_
  exact g_lret hx hb hr hlk hG dX2_read_43
set_option maxHeartbeats 4000000 in
set_option maxRecDepth 100000 in
theorem fp_write_5 {j q : Nat} (hj : j < 5) (hq : q < 256) (h : run j = true) (h2 : mp j (q / 4) = true) {z : Int32} (h3 : kd j (q / 4) &&& 1 = 0) : gM l yX2_write cX2_write 8 (some .int) 5 116 D cls (fpT cI cQ cZ) A (fpW ad cI cQ run mp fr kd wd ct af cf) [.ref (ad 0), .int (nI j), .int (nI q), .int z] (some (.int (-5))) (fpW ad cI cQ run mp fr kd wd ct af cf) := by
  refine gM_of (by decide) (Nat.le_of_ble_eq_true rfl) ?_
  intro p e s m args below meth c ls hx hb hml hown hts hN hr hlk hl hG
  have hown : s.vm.findClass RX2 = some m.cls := hown
  have hl : lv_has ls 8 [(0, .ref (ad 0)), (1, .int (nI j)), (2, .int (nI q)), (3, .int z)] := hl
  refine lv_aload_n hx hb dX2_write_0 rfl (lv_at hl 0 rfl) ?_
  refine lv_iload_n hx hb dX2_write_1 rfl (lv_at hl 1 rfl) ?_
  refine lv_iload_n hx hb dX2_write_2 rfl (lv_at hl 2 rfl) ?_
  refine g_callV (As := [.int (nI j), .int (nI q)]) (rest := []) (fs := [.ref (ad 1), .ref (ad 2), .int af, .int cf]) (fm_rA_pos (nI_pos (Nat.lt_trans hq (by decide))) (by rw [pk_div (d := 4) (Nat.lt_trans hq (by decide)) (by decide) (by decide)]; exact fm_rM_0 hj h (by omega) h2)) hx hb hml hown hts hN hG t_177 t_179 s_17 t_1 t_180 nm_X2_refusalOfAddress ⟨by decide, by decide⟩ fp_0 rfl hl.1 (Nat.le_of_ble_eq_true rfl) dX2_write_3 ⟨Nat.zero_le _, Nat.zero_le _⟩ (fun H locs hG => ?_)
  refine W.eq (g2 := F0 m 6 ls [.int 0]) rfl ?_
  refine lv_istore (lv' := [(4, .int 0), (0, .ref (ad 0)), (1, .int (nI j)), (2, .int (nI q)), (3, .int z)]) hx hb dX2_write_6 hl (by decide) rfl (fun ls hl => ?_)
  refine lv_iload hx hb dX2_write_8 (lv_at hl 0 rfl) ?_
  refine lv_if_eq (tgt := 16) hx hb dX2_write_10 rfl (fun _ => ?_) (fun hh => absurd (rfl) hh)
  refine lv_aload_n hx hb dX2_write_16 rfl (lv_at hl 1 rfl) ?_
  refine g_get (k := 0) (v := .ref (ad 1)) (C := RX2) (ref := RX2) (fs := [.ref (ad 1), .ref (ad 2), .int af, .int cf]) hx hb hown hts hG gX2 rfl fp_0 (by decide) t_53 rfl rfl dX2_write_17 ?_
  refine lv_iload_n hx hb dX2_write_20 rfl (lv_at hl 2 rfl) ?_
  refine g_aald (i := j) (t0 := 1) hx hb hG fp_1 rfl (hj) (by decide) rfl dX2_write_21 ?_
  refine lv_astore (lv' := [(5, .ref (ad (5 + 3 * j))), (4, .int 0), (0, .ref (ad 0)), (1, .int (nI j)), (2, .int (nI q)), (3, .int z)]) hx hb dX2_write_22 hl (by decide) rfl (fun ls hl => ?_)
  refine lv_iload_n hx hb dX2_write_24 rfl (lv_at hl 4 rfl) ?_
  refine lv_iconst (v := nI 4) hx hb dX2_write_25 (by decide) ?_
  refine lv_idiv hx hb dX2_write_26 (by decide) ?_
  refine g_top (y := nI (q / 4)) (pk_div (d := 4) (Nat.lt_trans hq (by decide)) (by decide) (by decide)) ?_
  refine lv_istore (lv' := [(6, .int (nI (q / 4))), (5, .ref (ad (5 + 3 * j))), (4, .int 0), (0, .ref (ad 0)), (1, .int (nI j)), (2, .int (nI q)), (3, .int z)]) hx hb dX2_write_27 hl (by decide) rfl (fun ls hl => ?_)
  refine lv_aload hx hb dX2_write_29 (lv_at hl 1 rfl) ?_
  refine lv_iconst (v := 1) hx hb dX2_write_31 (by decide) ?_
  refine lv_iload hx hb dX2_write_32 (lv_at hl 0 rfl) ?_
  refine g_callVN (As := [.int 1, .int (nI (q / 4))]) (rest := []) (fs := [.int (bI (run j)), .long (en (mp j)), .ref (ad (6 + 3 * j)), .ref (ad (7 + 3 * j))]) (fm_is_f hj (by omega) h3) hx hb hml hown hts hN hG t_109 t_111 s_7 t_2 t_112 nm_X0_is ⟨by decide, by decide⟩ (fp_5 (hj)) rfl hl.1 (Nat.le_of_ble_eq_true rfl) dX2_write_34 ⟨Nat.zero_le _, Nat.zero_le _⟩ (fun H locs hG => ?_)
  refine W.eq (g2 := F0 m 37 ls [.int 0]) rfl ?_
  refine lv_if_ne (tgt := 43) hx hb dX2_write_37 rfl (fun hh => absurd (rfl) hh) (fun _ => ?_)
  refine lv_bipush (v := (-5)) hx hb dX2_write_40 (by decide) ?_
  exact g_iret hx hb hr hlk hG dX2_write_42
set_option maxHeartbeats 4000000 in
set_option maxRecDepth 100000 in
theorem fp_write_0 {j q : Nat} (hj : j < 5) (hq : q < 256) (h : run j = true) (h2 : mp j (q / 4) = true) {z : Int32} (h3 : ¬ kd j (q / 4) &&& 1 = 0) (h4 : kd j (q / 4) &&& 4 = 0) (hf : fr j (q / 4) < 24) : gM l yX2_write cX2_write 8 (some .int) 5 116 D cls (fpT cI cQ cZ) A (fpW ad cI cQ run mp fr kd wd ct af cf) [.ref (ad 0), .int (nI j), .int (nI q), .int z] (some (.int 0)) (fpW ad cI cQ run mp fr kd (upd wd (fr j (q / 4) * 4 + q % 4) z) ct af cf) := by
  refine gM_of (by decide) (Nat.le_of_ble_eq_true rfl) ?_
  intro p e s m args below meth c ls hx hb hml hown hts hN hr hlk hl hG
  have hown : s.vm.findClass RX2 = some m.cls := hown
  have hl : lv_has ls 8 [(0, .ref (ad 0)), (1, .int (nI j)), (2, .int (nI q)), (3, .int z)] := hl
  refine lv_aload_n hx hb dX2_write_0 rfl (lv_at hl 0 rfl) ?_
  refine lv_iload_n hx hb dX2_write_1 rfl (lv_at hl 1 rfl) ?_
  refine lv_iload_n hx hb dX2_write_2 rfl (lv_at hl 2 rfl) ?_
  refine g_callV (As := [.int (nI j), .int (nI q)]) (rest := []) (fs := [.ref (ad 1), .ref (ad 2), .int af, .int cf]) (fm_rA_pos (nI_pos (Nat.lt_trans hq (by decide))) (by rw [pk_div (d := 4) (Nat.lt_trans hq (by decide)) (by decide) (by decide)]; exact fm_rM_0 hj h (by omega) h2)) hx hb hml hown hts hN hG t_177 t_179 s_17 t_1 t_180 nm_X2_refusalOfAddress ⟨by decide, by decide⟩ fp_0 rfl hl.1 (Nat.le_of_ble_eq_true rfl) dX2_write_3 ⟨Nat.zero_le _, Nat.zero_le _⟩ (fun H locs hG => ?_)
  refine W.eq (g2 := F0 m 6 ls [.int 0]) rfl ?_
  refine lv_istore (lv' := [(4, .int 0), (0, .ref (ad 0)), (1, .int (nI j)), (2, .int (nI q)), (3, .int z)]) hx hb dX2_write_6 hl (by decide) rfl (fun ls hl => ?_)
  refine lv_iload hx hb dX2_write_8 (lv_at hl 0 rfl) ?_
  refine lv_if_eq (tgt := 16) hx hb dX2_write_10 rfl (fun _ => ?_) (fun hh => absurd (rfl) hh)
  refine lv_aload_n hx hb dX2_write_16 rfl (lv_at hl 1 rfl) ?_
  refine g_get (k := 0) (v := .ref (ad 1)) (C := RX2) (ref := RX2) (fs := [.ref (ad 1), .ref (ad 2), .int af, .int cf]) hx hb hown hts hG gX2 rfl fp_0 (by decide) t_53 rfl rfl dX2_write_17 ?_
  refine lv_iload_n hx hb dX2_write_20 rfl (lv_at hl 2 rfl) ?_
  refine g_aald (i := j) (t0 := 1) hx hb hG fp_1 rfl (hj) (by decide) rfl dX2_write_21 ?_
  refine lv_astore (lv' := [(5, .ref (ad (5 + 3 * j))), (4, .int 0), (0, .ref (ad 0)), (1, .int (nI j)), (2, .int (nI q)), (3, .int z)]) hx hb dX2_write_22 hl (by decide) rfl (fun ls hl => ?_)
  refine lv_iload_n hx hb dX2_write_24 rfl (lv_at hl 4 rfl) ?_
  refine lv_iconst (v := nI 4) hx hb dX2_write_25 (by decide) ?_
  refine lv_idiv hx hb dX2_write_26 (by decide) ?_
  refine g_top (y := nI (q / 4)) (pk_div (d := 4) (Nat.lt_trans hq (by decide)) (by decide) (by decide)) ?_
  refine lv_istore (lv' := [(6, .int (nI (q / 4))), (5, .ref (ad (5 + 3 * j))), (4, .int 0), (0, .ref (ad 0)), (1, .int (nI j)), (2, .int (nI q)), (3, .int z)]) hx hb dX2_write_27 hl (by decide) rfl (fun ls hl => ?_)
  refine lv_aload hx hb dX2_write_29 (lv_at hl 1 rfl) ?_
  refine lv_iconst (v := 1) hx hb dX2_write_31 (by decide) ?_
  refine lv_iload hx hb dX2_write_32 (lv_at hl 0 rfl) ?_
  refine g_callVN (As := [.int 1, .int (nI (q / 4))]) (rest := []) (fs := [.int (bI (run j)), .long (en (mp j)), .ref (ad (6 + 3 * j)), .ref (ad (7 + 3 * j))]) (fm_is_t hj (by omega) h3) hx hb hml hown hts hN hG t_109 t_111 s_7 t_2 t_112 nm_X0_is ⟨by decide, by decide⟩ (fp_5 (hj)) rfl hl.1 (Nat.le_of_ble_eq_true rfl) dX2_write_34 ⟨Nat.zero_le _, Nat.zero_le _⟩ (fun H locs hG => ?_)
  refine W.eq (g2 := F0 m 37 ls [.int 1]) rfl ?_
  refine lv_if_ne (tgt := 43) hx hb dX2_write_37 rfl (fun _ => ?_) (fun hh => absurd hh (by decide))
  refine lv_iconst (v := 0) hx hb dX2_write_43 (by decide) ?_
  refine lv_istore (lv' := [(7, .int 0), (6, .int (nI (q / 4))), (5, .ref (ad (5 + 3 * j))), (4, .int 0), (0, .ref (ad 0)), (1, .int (nI j)), (2, .int (nI q)), (3, .int z)]) hx hb dX2_write_44 hl (by decide) rfl (fun ls hl => ?_)
  refine lv_aload hx hb dX2_write_46 (lv_at hl 2 rfl) ?_
  refine lv_iconst (v := 4) hx hb dX2_write_48 (by decide) ?_
  refine lv_iload hx hb dX2_write_49 (lv_at hl 1 rfl) ?_
  refine g_callVN (As := [.int 4, .int (nI (q / 4))]) (rest := []) (fs := [.int (bI (run j)), .long (en (mp j)), .ref (ad (6 + 3 * j)), .ref (ad (7 + 3 * j))]) (fm_is_f hj (by omega) h4) hx hb hml hown hts hN hG t_109 t_111 s_7 t_2 t_112 nm_X0_is ⟨by decide, by decide⟩ (fp_5 (hj)) rfl hl.1 (Nat.le_of_ble_eq_true rfl) dX2_write_51 ⟨Nat.zero_le _, Nat.zero_le _⟩ (fun H locs hG => ?_)
  refine W.eq (g2 := F0 m 54 ls [.int 0]) rfl ?_
  refine lv_if_eq (tgt := 75) hx hb dX2_write_54 rfl (fun _ => ?_) (fun hh => absurd (rfl) hh)
  refine lv_aload_n hx hb dX2_write_75 rfl (lv_at hl 4 rfl) ?_
  refine g_get (k := 1) (v := .ref (ad 2)) (C := RX2) (ref := RX2) (fs := [.ref (ad 1), .ref (ad 2), .int af, .int cf]) hx hb hown hts hG gX2 rfl fp_0 (by decide) t_54 rfl rfl dX2_write_76 ?_
  refine g_getN (k := 0) (v := .ref (ad 3)) (C := RX1) (ref := RX1) (fs := [.ref (ad 3), .ref (ad 4)]) hx hb hown hts hN hG gX1 rfl fp_2 (by decide) t_45 rfl rfl dX2_write_79 ?_
  refine lv_aload hx hb dX2_write_82 (lv_at hl 2 rfl) ?_
  refine g_getN (k := 2) (v := .ref (ad (6 + 3 * j))) (C := RX0) (ref := RX0) (fs := [.int (bI (run j)), .long (en (mp j)), .ref (ad (6 + 3 * j)), .ref (ad (7 + 3 * j))]) hx hb hown hts hN hG gX0 rfl (fp_5 (hj)) (by decide) t_25 rfl rfl dX2_write_84 ?_
  refine lv_iload hx hb dX2_write_87 (lv_at hl 1 rfl) ?_
  refine g_iald (i := (q / 4)) (t0 := 0) hx hb hG (fp_6 (hj)) rfl ((by omega)) (by decide) dX2_write_89 ?_
  refine lv_iconst (v := nI 4) hx hb dX2_write_90 (by decide) ?_
  refine lv_imul hx hb dX2_write_91 ?_
  refine g_top (y := nI (fr j (q / 4) * 4)) (pk_mul _ 4) ?_
  refine lv_iload_n hx hb dX2_write_92 rfl (lv_at hl 6 rfl) ?_
  refine lv_iconst (v := nI 4) hx hb dX2_write_93 (by decide) ?_
  refine lv_irem hx hb dX2_write_94 (by decide) ?_
  refine g_top (y := nI (q % 4)) (pk_rem (d := 4) (Nat.lt_trans hq (by decide)) (by decide) (by decide)) ?_
  refine lv_iadd hx hb dX2_write_95 ?_
  refine g_top (y := nI (fr j (q / 4) * 4 + q % 4)) (nI_add _ _) ?_
  refine lv_iload_n hx hb dX2_write_96 rfl (lv_at hl 7 rfl) ?_
  refine g_iast (i := (fr j (q / 4) * 4 + q % 4)) (x := z) (t0 := 0) (ws' := fpW ad cI cQ run mp fr kd (upd wd (fr j (q / 4) * 4 + q % 4) z) ct af cf) hx hb hG fp_3 rfl ((by omega)) (by decide) (fp_s3 _) dX2_write_97 (fun H locs hG => ?_)
  refine lv_iload hx hb dX2_write_98 (lv_at hl 0 rfl) ?_
  exact g_iret hx hb hr hlk hG dX2_write_100
set_option maxHeartbeats 4000000 in
set_option maxRecDepth 100000 in
theorem fp_write_8 {j q : Nat} (hj : j < 5) (hq : q < 256) (h : run j = true) (h2 : mp j (q / 4) = true) {z : Int32} (h3 : ¬ kd j (q / 4) &&& 1 = 0) (h4 : ¬ kd j (q / 4) &&& 4 = 0) (hf : fr j (q / 4) < 24) (h5 : ¬ ct (fr j (q / 4)) ≤ 1) (h6 : ¬ 1 ≤ frF run mp ct) : gM l yX2_write cX2_write 8 (some .int) 5 116 D cls (fpT cI cQ cZ) A (fpW ad cI cQ run mp fr kd wd ct af cf) [.ref (ad 0), .int (nI j), .int (nI q), .int z] (some (.int (-8))) (fpW ad cI cQ run mp fr kd wd ct af cf) := by
  refine gM_of (by decide) (Nat.le_of_ble_eq_true rfl) ?_
  intro p e s m args below meth c ls hx hb hml hown hts hN hr hlk hl hG
  have hown : s.vm.findClass RX2 = some m.cls := hown
  have hl : lv_has ls 8 [(0, .ref (ad 0)), (1, .int (nI j)), (2, .int (nI q)), (3, .int z)] := hl
  refine lv_aload_n hx hb dX2_write_0 rfl (lv_at hl 0 rfl) ?_
  refine lv_iload_n hx hb dX2_write_1 rfl (lv_at hl 1 rfl) ?_
  refine lv_iload_n hx hb dX2_write_2 rfl (lv_at hl 2 rfl) ?_
  refine g_callV (As := [.int (nI j), .int (nI q)]) (rest := []) (fs := [.ref (ad 1), .ref (ad 2), .int af, .int cf]) (fm_rA_pos (nI_pos (Nat.lt_trans hq (by decide))) (by rw [pk_div (d := 4) (Nat.lt_trans hq (by decide)) (by decide) (by decide)]; exact fm_rM_0 hj h (by omega) h2)) hx hb hml hown hts hN hG t_177 t_179 s_17 t_1 t_180 nm_X2_refusalOfAddress ⟨by decide, by decide⟩ fp_0 rfl hl.1 (Nat.le_of_ble_eq_true rfl) dX2_write_3 ⟨Nat.zero_le _, Nat.zero_le _⟩ (fun H locs hG => ?_)
  refine W.eq (g2 := F0 m 6 ls [.int 0]) rfl ?_
  refine lv_istore (lv' := [(4, .int 0), (0, .ref (ad 0)), (1, .int (nI j)), (2, .int (nI q)), (3, .int z)]) hx hb dX2_write_6 hl (by decide) rfl (fun ls hl => ?_)
  refine lv_iload hx hb dX2_write_8 (lv_at hl 0 rfl) ?_
  refine lv_if_eq (tgt := 16) hx hb dX2_write_10 rfl (fun _ => ?_) (fun hh => absurd (rfl) hh)
  refine lv_aload_n hx hb dX2_write_16 rfl (lv_at hl 1 rfl) ?_
  refine g_get (k := 0) (v := .ref (ad 1)) (C := RX2) (ref := RX2) (fs := [.ref (ad 1), .ref (ad 2), .int af, .int cf]) hx hb hown hts hG gX2 rfl fp_0 (by decide) t_53 rfl rfl dX2_write_17 ?_
  refine lv_iload_n hx hb dX2_write_20 rfl (lv_at hl 2 rfl) ?_
  refine g_aald (i := j) (t0 := 1) hx hb hG fp_1 rfl (hj) (by decide) rfl dX2_write_21 ?_
  refine lv_astore (lv' := [(5, .ref (ad (5 + 3 * j))), (4, .int 0), (0, .ref (ad 0)), (1, .int (nI j)), (2, .int (nI q)), (3, .int z)]) hx hb dX2_write_22 hl (by decide) rfl (fun ls hl => ?_)
  refine lv_iload_n hx hb dX2_write_24 rfl (lv_at hl 4 rfl) ?_
  refine lv_iconst (v := nI 4) hx hb dX2_write_25 (by decide) ?_
  refine lv_idiv hx hb dX2_write_26 (by decide) ?_
  refine g_top (y := nI (q / 4)) (pk_div (d := 4) (Nat.lt_trans hq (by decide)) (by decide) (by decide)) ?_
  refine lv_istore (lv' := [(6, .int (nI (q / 4))), (5, .ref (ad (5 + 3 * j))), (4, .int 0), (0, .ref (ad 0)), (1, .int (nI j)), (2, .int (nI q)), (3, .int z)]) hx hb dX2_write_27 hl (by decide) rfl (fun ls hl => ?_)
  refine lv_aload hx hb dX2_write_29 (lv_at hl 1 rfl) ?_
  refine lv_iconst (v := 1) hx hb dX2_write_31 (by decide) ?_
  refine lv_iload hx hb dX2_write_32 (lv_at hl 0 rfl) ?_
  refine g_callVN (As := [.int 1, .int (nI (q / 4))]) (rest := []) (fs := [.int (bI (run j)), .long (en (mp j)), .ref (ad (6 + 3 * j)), .ref (ad (7 + 3 * j))]) (fm_is_t hj (by omega) h3) hx hb hml hown hts hN hG t_109 t_111 s_7 t_2 t_112 nm_X0_is ⟨by decide, by decide⟩ (fp_5 (hj)) rfl hl.1 (Nat.le_of_ble_eq_true rfl) dX2_write_34 ⟨Nat.zero_le _, Nat.zero_le _⟩ (fun H locs hG => ?_)
  refine W.eq (g2 := F0 m 37 ls [.int 1]) rfl ?_
  refine lv_if_ne (tgt := 43) hx hb dX2_write_37 rfl (fun _ => ?_) (fun hh => absurd hh (by decide))
  refine lv_iconst (v := 0) hx hb dX2_write_43 (by decide) ?_
  refine lv_istore (lv' := [(7, .int 0), (6, .int (nI (q / 4))), (5, .ref (ad (5 + 3 * j))), (4, .int 0), (0, .ref (ad 0)), (1, .int (nI j)), (2, .int (nI q)), (3, .int z)]) hx hb dX2_write_44 hl (by decide) rfl (fun ls hl => ?_)
  refine lv_aload hx hb dX2_write_46 (lv_at hl 2 rfl) ?_
  refine lv_iconst (v := 4) hx hb dX2_write_48 (by decide) ?_
  refine lv_iload hx hb dX2_write_49 (lv_at hl 1 rfl) ?_
  refine g_callVN (As := [.int 4, .int (nI (q / 4))]) (rest := []) (fs := [.int (bI (run j)), .long (en (mp j)), .ref (ad (6 + 3 * j)), .ref (ad (7 + 3 * j))]) (fm_is_t hj (by omega) h4) hx hb hml hown hts hN hG t_109 t_111 s_7 t_2 t_112 nm_X0_is ⟨by decide, by decide⟩ (fp_5 (hj)) rfl hl.1 (Nat.le_of_ble_eq_true rfl) dX2_write_51 ⟨Nat.zero_le _, Nat.zero_le _⟩ (fun H locs hG => ?_)
  refine W.eq (g2 := F0 m 54 ls [.int 1]) rfl ?_
  refine lv_if_eq (tgt := 75) hx hb dX2_write_54 rfl (fun hh => absurd hh (by decide)) (fun _ => ?_)
  refine lv_aload_n hx hb dX2_write_57 rfl (lv_at hl 4 rfl) ?_
  refine lv_aload hx hb dX2_write_58 (lv_at hl 2 rfl) ?_
  refine lv_iload hx hb dX2_write_60 (lv_at hl 1 rfl) ?_
  refine g_callV (As := [.ref (ad (5 + 3 * j)), .int (nI (q / 4))]) (rest := []) (fs := [.ref (ad 1), .ref (ad 2), .int af, .int cf]) (fm_rF_room hj (by omega) hf h5 h6) hx hb hml hown hts hN hG t_181 t_183 s_18 t_1 t_184 nm_X2_resolveFault ⟨by decide, by decide⟩ fp_0 rfl hl.1 (Nat.le_of_ble_eq_true rfl) dX2_write_62 ⟨Nat.zero_le _, Nat.zero_le _⟩ (fun H locs hG => ?_)
  refine W.eq (g2 := F0 m 65 ls [.int (-8)]) rfl ?_
  refine lv_istore (lv' := [(7, .int (-8)), (6, .int (nI (q / 4))), (5, .ref (ad (5 + 3 * j))), (4, .int 0), (0, .ref (ad 0)), (1, .int (nI j)), (2, .int (nI q)), (3, .int z)]) hx hb dX2_write_65 hl (by decide) rfl (fun ls hl => ?_)
  refine lv_iload hx hb dX2_write_67 (lv_at hl 0 rfl) ?_
  refine lv_if_ge (tgt := 75) hx hb dX2_write_69 rfl (fun hh => absurd hh (by decide)) (fun _ => ?_)
  refine lv_iload hx hb dX2_write_72 (lv_at hl 0 rfl) ?_
  exact g_iret hx hb hr hlk hG dX2_write_74
set_option maxHeartbeats 4000000 in
set_option maxRecDepth 100000 in
theorem fp_write_1 {j q : Nat} (hj : j < 5) (hq : q < 256) (h : run j = true) (h2 : mp j (q / 4) = true) {z : Int32} (h3 : ¬ kd j (q / 4) &&& 1 = 0) (h4 : ¬ kd j (q / 4) &&& 4 = 0) (hf : fr j (q / 4) < 24) (h5 : ct (fr j (q / 4)) ≤ 1) : gM l yX2_write cX2_write 8 (some .int) 5 116 D cls (fpT cI cQ cZ) A (fpW ad cI cQ run mp fr kd wd ct af cf) [.ref (ad 0), .int (nI j), .int (nI q), .int z] (some (.int 1)) (fpW ad cI cQ run mp fr (up1 kd j (upd (kd j) (q / 4) (kd j (q / 4) ^^^ 4))) (upd wd (fr j (q / 4) * 4 + q % 4) z) ct (af + 1) cf) := by
  refine gM_of (by decide) (Nat.le_of_ble_eq_true rfl) ?_
  intro p e s m args below meth c ls hx hb hml hown hts hN hr hlk hl hG
  have hown : s.vm.findClass RX2 = some m.cls := hown
  have hl : lv_has ls 8 [(0, .ref (ad 0)), (1, .int (nI j)), (2, .int (nI q)), (3, .int z)] := hl
  refine lv_aload_n hx hb dX2_write_0 rfl (lv_at hl 0 rfl) ?_
  refine lv_iload_n hx hb dX2_write_1 rfl (lv_at hl 1 rfl) ?_
  refine lv_iload_n hx hb dX2_write_2 rfl (lv_at hl 2 rfl) ?_
  refine g_callV (As := [.int (nI j), .int (nI q)]) (rest := []) (fs := [.ref (ad 1), .ref (ad 2), .int af, .int cf]) (fm_rA_pos (nI_pos (Nat.lt_trans hq (by decide))) (by rw [pk_div (d := 4) (Nat.lt_trans hq (by decide)) (by decide) (by decide)]; exact fm_rM_0 hj h (by omega) h2)) hx hb hml hown hts hN hG t_177 t_179 s_17 t_1 t_180 nm_X2_refusalOfAddress ⟨by decide, by decide⟩ fp_0 rfl hl.1 (Nat.le_of_ble_eq_true rfl) dX2_write_3 ⟨Nat.zero_le _, Nat.zero_le _⟩ (fun H locs hG => ?_)
  refine W.eq (g2 := F0 m 6 ls [.int 0]) rfl ?_
  refine lv_istore (lv' := [(4, .int 0), (0, .ref (ad 0)), (1, .int (nI j)), (2, .int (nI q)), (3, .int z)]) hx hb dX2_write_6 hl (by decide) rfl (fun ls hl => ?_)
  refine lv_iload hx hb dX2_write_8 (lv_at hl 0 rfl) ?_
  refine lv_if_eq (tgt := 16) hx hb dX2_write_10 rfl (fun _ => ?_) (fun hh => absurd (rfl) hh)
  refine lv_aload_n hx hb dX2_write_16 rfl (lv_at hl 1 rfl) ?_
  refine g_get (k := 0) (v := .ref (ad 1)) (C := RX2) (ref := RX2) (fs := [.ref (ad 1), .ref (ad 2), .int af, .int cf]) hx hb hown hts hG gX2 rfl fp_0 (by decide) t_53 rfl rfl dX2_write_17 ?_
  refine lv_iload_n hx hb dX2_write_20 rfl (lv_at hl 2 rfl) ?_
  refine g_aald (i := j) (t0 := 1) hx hb hG fp_1 rfl (hj) (by decide) rfl dX2_write_21 ?_
  refine lv_astore (lv' := [(5, .ref (ad (5 + 3 * j))), (4, .int 0), (0, .ref (ad 0)), (1, .int (nI j)), (2, .int (nI q)), (3, .int z)]) hx hb dX2_write_22 hl (by decide) rfl (fun ls hl => ?_)
  refine lv_iload_n hx hb dX2_write_24 rfl (lv_at hl 4 rfl) ?_
  refine lv_iconst (v := nI 4) hx hb dX2_write_25 (by decide) ?_
  refine lv_idiv hx hb dX2_write_26 (by decide) ?_
  refine g_top (y := nI (q / 4)) (pk_div (d := 4) (Nat.lt_trans hq (by decide)) (by decide) (by decide)) ?_
  refine lv_istore (lv' := [(6, .int (nI (q / 4))), (5, .ref (ad (5 + 3 * j))), (4, .int 0), (0, .ref (ad 0)), (1, .int (nI j)), (2, .int (nI q)), (3, .int z)]) hx hb dX2_write_27 hl (by decide) rfl (fun ls hl => ?_)
  refine lv_aload hx hb dX2_write_29 (lv_at hl 1 rfl) ?_
  refine lv_iconst (v := 1) hx hb dX2_write_31 (by decide) ?_
  refine lv_iload hx hb dX2_write_32 (lv_at hl 0 rfl) ?_
  refine g_callVN (As := [.int 1, .int (nI (q / 4))]) (rest := []) (fs := [.int (bI (run j)), .long (en (mp j)), .ref (ad (6 + 3 * j)), .ref (ad (7 + 3 * j))]) (fm_is_t hj (by omega) h3) hx hb hml hown hts hN hG t_109 t_111 s_7 t_2 t_112 nm_X0_is ⟨by decide, by decide⟩ (fp_5 (hj)) rfl hl.1 (Nat.le_of_ble_eq_true rfl) dX2_write_34 ⟨Nat.zero_le _, Nat.zero_le _⟩ (fun H locs hG => ?_)
  refine W.eq (g2 := F0 m 37 ls [.int 1]) rfl ?_
  refine lv_if_ne (tgt := 43) hx hb dX2_write_37 rfl (fun _ => ?_) (fun hh => absurd hh (by decide))
  refine lv_iconst (v := 0) hx hb dX2_write_43 (by decide) ?_
  refine lv_istore (lv' := [(7, .int 0), (6, .int (nI (q / 4))), (5, .ref (ad (5 + 3 * j))), (4, .int 0), (0, .ref (ad 0)), (1, .int (nI j)), (2, .int (nI q)), (3, .int z)]) hx hb dX2_write_44 hl (by decide) rfl (fun ls hl => ?_)
  refine lv_aload hx hb dX2_write_46 (lv_at hl 2 rfl) ?_
  refine lv_iconst (v := 4) hx hb dX2_write_48 (by decide) ?_
  refine lv_iload hx hb dX2_write_49 (lv_at hl 1 rfl) ?_
  refine g_callVN (As := [.int 4, .int (nI (q / 4))]) (rest := []) (fs := [.int (bI (run j)), .long (en (mp j)), .ref (ad (6 + 3 * j)), .ref (ad (7 + 3 * j))]) (fm_is_t hj (by omega) h4) hx hb hml hown hts hN hG t_109 t_111 s_7 t_2 t_112 nm_X0_is ⟨by decide, by decide⟩ (fp_5 (hj)) rfl hl.1 (Nat.le_of_ble_eq_true rfl) dX2_write_51 ⟨Nat.zero_le _, Nat.zero_le _⟩ (fun H locs hG => ?_)
  refine W.eq (g2 := F0 m 54 ls [.int 1]) rfl ?_
  refine lv_if_eq (tgt := 75) hx hb dX2_write_54 rfl (fun hh => absurd hh (by decide)) (fun _ => ?_)
  refine lv_aload_n hx hb dX2_write_57 rfl (lv_at hl 4 rfl) ?_
  refine lv_aload hx hb dX2_write_58 (lv_at hl 2 rfl) ?_
  refine lv_iload hx hb dX2_write_60 (lv_at hl 1 rfl) ?_
  refine g_callV (As := [.ref (ad (5 + 3 * j)), .int (nI (q / 4))]) (rest := []) (fs := [.ref (ad 1), .ref (ad 2), .int af, .int cf]) (fm_rF_one hj (by omega) hf h5) hx hb hml hown hts hN hG t_181 t_183 s_18 t_1 t_184 nm_X2_resolveFault ⟨by decide, by decide⟩ fp_0 rfl hl.1 (Nat.le_of_ble_eq_true rfl) dX2_write_62 ⟨Nat.zero_le _, Nat.zero_le _⟩ (fun H locs hG => ?_)
  refine W.eq (g2 := F0 m 65 ls [.int 1]) rfl ?_
  refine lv_istore (lv' := [(7, .int 1), (6, .int (nI (q / 4))), (5, .ref (ad (5 + 3 * j))), (4, .int 0), (0, .ref (ad 0)), (1, .int (nI j)), (2, .int (nI q)), (3, .int z)]) hx hb dX2_write_65 hl (by decide) rfl (fun ls hl => ?_)
  refine lv_iload hx hb dX2_write_67 (lv_at hl 0 rfl) ?_
  refine lv_if_ge (tgt := 75) hx hb dX2_write_69 rfl (fun _ => ?_) (fun hh => absurd (by decide) hh)
  refine lv_aload_n hx hb dX2_write_75 rfl (lv_at hl 4 rfl) ?_
  refine g_get (k := 1) (v := .ref (ad 2)) (C := RX2) (ref := RX2) (fs := [.ref (ad 1), .ref (ad 2), .int (af + 1), .int cf]) hx hb hown hts hG gX2 rfl fp_0 (by decide) t_54 rfl rfl dX2_write_76 ?_
  refine g_getN (k := 0) (v := .ref (ad 3)) (C := RX1) (ref := RX1) (fs := [.ref (ad 3), .ref (ad 4)]) hx hb hown hts hN hG gX1 rfl fp_2 (by decide) t_45 rfl rfl dX2_write_79 ?_
  refine lv_aload hx hb dX2_write_82 (lv_at hl 2 rfl) ?_
  refine g_getN (k := 2) (v := .ref (ad (6 + 3 * j))) (C := RX0) (ref := RX0) (fs := [.int (bI (run j)), .long (en (mp j)), .ref (ad (6 + 3 * j)), .ref (ad (7 + 3 * j))]) hx hb hown hts hN hG gX0 rfl (fp_5 (hj)) (by decide) t_25 rfl rfl dX2_write_84 ?_
  refine lv_iload hx hb dX2_write_87 (lv_at hl 1 rfl) ?_
  refine g_iald (i := (q / 4)) (t0 := 0) hx hb hG (fp_6 (hj)) rfl ((by omega)) (by decide) dX2_write_89 ?_
  refine lv_iconst (v := nI 4) hx hb dX2_write_90 (by decide) ?_
  refine lv_imul hx hb dX2_write_91 ?_
  refine g_top (y := nI (fr j (q / 4) * 4)) (pk_mul _ 4) ?_
  refine lv_iload_n hx hb dX2_write_92 rfl (lv_at hl 6 rfl) ?_
  refine lv_iconst (v := nI 4) hx hb dX2_write_93 (by decide) ?_
  refine lv_irem hx hb dX2_write_94 (by decide) ?_
  refine g_top (y := nI (q % 4)) (pk_rem (d := 4) (Nat.lt_trans hq (by decide)) (by decide) (by decide)) ?_
  refine lv_iadd hx hb dX2_write_95 ?_
  refine g_top (y := nI (fr j (q / 4) * 4 + q % 4)) (nI_add _ _) ?_
  refine lv_iload_n hx hb dX2_write_96 rfl (lv_at hl 7 rfl) ?_
  refine g_iast (i := (fr j (q / 4) * 4 + q % 4)) (x := z) (t0 := 0) (ws' := fpW ad cI cQ run mp fr (up1 kd j (upd (kd j) (q / 4) (kd j (q / 4) ^^^ 4))) (upd wd (fr j (q / 4) * 4 + q % 4) z) ct (af + 1) cf) hx hb hG fp_3 rfl ((by omega)) (by decide) (fp_s3 _) dX2_write_97 (fun H locs hG => ?_)
  refine lv_iload hx hb dX2_write_98 (lv_at hl 0 rfl) ?_
  exact g_iret hx hb hr hlk hG dX2_write_100
set_option maxHeartbeats 4000000 in
set_option maxRecDepth 100000 in
theorem fp_write_2 {j q : Nat} (hj : j < 5) (hq : q < 256) (h : run j = true) (h2 : mp j (q / 4) = true) {z : Int32} (h3 : ¬ kd j (q / 4) &&& 1 = 0) (h4 : ¬ kd j (q / 4) &&& 4 = 0) (hf : fr j (q / 4) < 24) (h5 : ¬ ct (fr j (q / 4)) ≤ 1) (h6 : 1 ≤ frF run mp ct) : gM l yX2_write cX2_write 8 (some .int) 5 116 D cls (fpT cI cQ cZ) A (fpW ad cI cQ run mp fr kd wd ct af cf) [.ref (ad 0), .int (nI j), .int (nI q), .int z] (some (.int 2)) (fpW ad cI cQ run (up1 (up1 mp j (up1 (mp j) (q / 4) false)) j (up1 ((up1 mp j (up1 (mp j) (q / 4) false)) j) (q / 4) true)) (up1 fr j (up1 (fr j) (q / 4) (unF ct 24))) (up1 (up1 kd j (upd (kd j) (q / 4) (kd j (q / 4) ^^^ 4))) j (upd ((up1 kd j (upd (kd j) (q / 4) (kd j (q / 4) ^^^ 4))) j) (q / 4) ((up1 kd j (upd (kd j) (q / 4) (kd j (q / 4) ^^^ 4))) j (q / 4)))) (upd (cpW wd (fr j (q / 4)) (unF ct 24)) (unF ct 24 * 4 + q % 4) z) (upd (upd ct (fr j (q / 4)) (ct (fr j (q / 4)) - 1)) (unF ct 24) ((upd ct (fr j (q / 4)) (ct (fr j (q / 4)) - 1)) (unF ct 24) + 1)) (af + 1) (cf + 1)) := by
  refine gM_of (by decide) (Nat.le_of_ble_eq_true rfl) ?_
  intro p e s m args below meth c ls hx hb hml hown hts hN hr hlk hl hG
  have hown : s.vm.findClass RX2 = some m.cls := hown
  have hl : lv_has ls 8 [(0, .ref (ad 0)), (1, .int (nI j)), (2, .int (nI q)), (3, .int z)] := hl
  refine lv_aload_n hx hb dX2_write_0 rfl (lv_at hl 0 rfl) ?_
  refine lv_iload_n hx hb dX2_write_1 rfl (lv_at hl 1 rfl) ?_
  refine lv_iload_n hx hb dX2_write_2 rfl (lv_at hl 2 rfl) ?_
  refine g_callV (As := [.int (nI j), .int (nI q)]) (rest := []) (fs := [.ref (ad 1), .ref (ad 2), .int af, .int cf]) (fm_rA_pos (nI_pos (Nat.lt_trans hq (by decide))) (by rw [pk_div (d := 4) (Nat.lt_trans hq (by decide)) (by decide) (by decide)]; exact fm_rM_0 hj h (by omega) h2)) hx hb hml hown hts hN hG t_177 t_179 s_17 t_1 t_180 nm_X2_refusalOfAddress ⟨by decide, by decide⟩ fp_0 rfl hl.1 (Nat.le_of_ble_eq_true rfl) dX2_write_3 ⟨Nat.zero_le _, Nat.zero_le _⟩ (fun H locs hG => ?_)
  refine W.eq (g2 := F0 m 6 ls [.int 0]) rfl ?_
  refine lv_istore (lv' := [(4, .int 0), (0, .ref (ad 0)), (1, .int (nI j)), (2, .int (nI q)), (3, .int z)]) hx hb dX2_write_6 hl (by decide) rfl (fun ls hl => ?_)
  refine lv_iload hx hb dX2_write_8 (lv_at hl 0 rfl) ?_
  refine lv_if_eq (tgt := 16) hx hb dX2_write_10 rfl (fun _ => ?_) (fun hh => absurd (rfl) hh)
  refine lv_aload_n hx hb dX2_write_16 rfl (lv_at hl 1 rfl) ?_
  refine g_get (k := 0) (v := .ref (ad 1)) (C := RX2) (ref := RX2) (fs := [.ref (ad 1), .ref (ad 2), .int af, .int cf]) hx hb hown hts hG gX2 rfl fp_0 (by decide) t_53 rfl rfl dX2_write_17 ?_
  refine lv_iload_n hx hb dX2_write_20 rfl (lv_at hl 2 rfl) ?_
  refine g_aald (i := j) (t0 := 1) hx hb hG fp_1 rfl (hj) (by decide) rfl dX2_write_21 ?_
  refine lv_astore (lv' := [(5, .ref (ad (5 + 3 * j))), (4, .int 0), (0, .ref (ad 0)), (1, .int (nI j)), (2, .int (nI q)), (3, .int z)]) hx hb dX2_write_22 hl (by decide) rfl (fun ls hl => ?_)
  refine lv_iload_n hx hb dX2_write_24 rfl (lv_at hl 4 rfl) ?_
  refine lv_iconst (v := nI 4) hx hb dX2_write_25 (by decide) ?_
  refine lv_idiv hx hb dX2_write_26 (by decide) ?_
  refine g_top (y := nI (q / 4)) (pk_div (d := 4) (Nat.lt_trans hq (by decide)) (by decide) (by decide)) ?_
  refine lv_istore (lv' := [(6, .int (nI (q / 4))), (5, .ref (ad (5 + 3 * j))), (4, .int 0), (0, .ref (ad 0)), (1, .int (nI j)), (2, .int (nI q)), (3, .int z)]) hx hb dX2_write_27 hl (by decide) rfl (fun ls hl => ?_)
  refine lv_aload hx hb dX2_write_29 (lv_at hl 1 rfl) ?_
  refine lv_iconst (v := 1) hx hb dX2_write_31 (by decide) ?_
  refine lv_iload hx hb dX2_write_32 (lv_at hl 0 rfl) ?_
  refine g_callVN (As := [.int 1, .int (nI (q / 4))]) (rest := []) (fs := [.int (bI (run j)), .long (en (mp j)), .ref (ad (6 + 3 * j)), .ref (ad (7 + 3 * j))]) (fm_is_t hj (by omega) h3) hx hb hml hown hts hN hG t_109 t_111 s_7 t_2 t_112 nm_X0_is ⟨by decide, by decide⟩ (fp_5 (hj)) rfl hl.1 (Nat.le_of_ble_eq_true rfl) dX2_write_34 ⟨Nat.zero_le _, Nat.zero_le _⟩ (fun H locs hG => ?_)
  refine W.eq (g2 := F0 m 37 ls [.int 1]) rfl ?_
  refine lv_if_ne (tgt := 43) hx hb dX2_write_37 rfl (fun _ => ?_) (fun hh => absurd hh (by decide))
  refine lv_iconst (v := 0) hx hb dX2_write_43 (by decide) ?_
  refine lv_istore (lv' := [(7, .int 0), (6, .int (nI (q / 4))), (5, .ref (ad (5 + 3 * j))), (4, .int 0), (0, .ref (ad 0)), (1, .int (nI j)), (2, .int (nI q)), (3, .int z)]) hx hb dX2_write_44 hl (by decide) rfl (fun ls hl => ?_)
  refine lv_aload hx hb dX2_write_46 (lv_at hl 2 rfl) ?_
  refine lv_iconst (v := 4) hx hb dX2_write_48 (by decide) ?_
  refine lv_iload hx hb dX2_write_49 (lv_at hl 1 rfl) ?_
  refine g_callVN (As := [.int 4, .int (nI (q / 4))]) (rest := []) (fs := [.int (bI (run j)), .long (en (mp j)), .ref (ad (6 + 3 * j)), .ref (ad (7 + 3 * j))]) (fm_is_t hj (by omega) h4) hx hb hml hown hts hN hG t_109 t_111 s_7 t_2 t_112 nm_X0_is ⟨by decide, by decide⟩ (fp_5 (hj)) rfl hl.1 (Nat.le_of_ble_eq_true rfl) dX2_write_51 ⟨Nat.zero_le _, Nat.zero_le _⟩ (fun H locs hG => ?_)
  refine W.eq (g2 := F0 m 54 ls [.int 1]) rfl ?_
  refine lv_if_eq (tgt := 75) hx hb dX2_write_54 rfl (fun hh => absurd hh (by decide)) (fun _ => ?_)
  refine lv_aload_n hx hb dX2_write_57 rfl (lv_at hl 4 rfl) ?_
  refine lv_aload hx hb dX2_write_58 (lv_at hl 2 rfl) ?_
  refine lv_iload hx hb dX2_write_60 (lv_at hl 1 rfl) ?_
  refine g_callV (As := [.ref (ad (5 + 3 * j)), .int (nI (q / 4))]) (rest := []) (fs := [.ref (ad 1), .ref (ad 2), .int af, .int cf]) (fm_rF_two hj (by omega) hf h5 h6) hx hb hml hown hts hN hG t_181 t_183 s_18 t_1 t_184 nm_X2_resolveFault ⟨by decide, by decide⟩ fp_0 rfl hl.1 (Nat.le_of_ble_eq_true rfl) dX2_write_62 ⟨Nat.zero_le _, Nat.zero_le _⟩ (fun H locs hG => ?_)
  refine W.eq (g2 := F0 m 65 ls [.int 2]) rfl ?_
  refine lv_istore (lv' := [(7, .int 2), (6, .int (nI (q / 4))), (5, .ref (ad (5 + 3 * j))), (4, .int 0), (0, .ref (ad 0)), (1, .int (nI j)), (2, .int (nI q)), (3, .int z)]) hx hb dX2_write_65 hl (by decide) rfl (fun ls hl => ?_)
  refine lv_iload hx hb dX2_write_67 (lv_at hl 0 rfl) ?_
  refine lv_if_ge (tgt := 75) hx hb dX2_write_69 rfl (fun _ => ?_) (fun hh => absurd (by decide) hh)
  refine lv_aload_n hx hb dX2_write_75 rfl (lv_at hl 4 rfl) ?_
  refine g_get (k := 1) (v := .ref (ad 2)) (C := RX2) (ref := RX2) (fs := [.ref (ad 1), .ref (ad 2), .int (af + 1), .int (cf + 1)]) hx hb hown hts hG gX2 rfl fp_0 (by decide) t_54 rfl rfl dX2_write_76 ?_
  refine g_getN (k := 0) (v := .ref (ad 3)) (C := RX1) (ref := RX1) (fs := [.ref (ad 3), .ref (ad 4)]) hx hb hown hts hN hG gX1 rfl fp_2 (by decide) t_45 rfl rfl dX2_write_79 ?_
  refine lv_aload hx hb dX2_write_82 (lv_at hl 2 rfl) ?_
  refine g_getN (k := 2) (v := .ref (ad (6 + 3 * j))) (C := RX0) (ref := RX0) (fs := [.int (bI (run j)), .long (en ((up1 (up1 mp j (up1 (mp j) (q / 4) false)) j (up1 ((up1 mp j (up1 (mp j) (q / 4) false)) j) (q / 4) true)) j)), .ref (ad (6 + 3 * j)), .ref (ad (7 + 3 * j))]) hx hb hown hts hN hG gX0 rfl (fp_5 (hj)) (by decide) t_25 rfl rfl dX2_write_84 ?_
  refine lv_iload hx hb dX2_write_87 (lv_at hl 1 rfl) ?_
  refine g_iald (i := (q / 4)) (t0 := 0) hx hb hG (fp_6 (hj)) rfl ((by omega)) (by decide) dX2_write_89 ?_
  refine g_top (y := nI (unF ct 24)) (by rw [up1_s, up1_s]) ?_
  refine lv_iconst (v := nI 4) hx hb dX2_write_90 (by decide) ?_
  refine lv_imul hx hb dX2_write_91 ?_
  refine g_top (y := nI (unF ct 24 * 4)) (pk_mul _ 4) ?_
  refine lv_iload_n hx hb dX2_write_92 rfl (lv_at hl 6 rfl) ?_
  refine lv_iconst (v := nI 4) hx hb dX2_write_93 (by decide) ?_
  refine lv_irem hx hb dX2_write_94 (by decide) ?_
  refine g_top (y := nI (q % 4)) (pk_rem (d := 4) (Nat.lt_trans hq (by decide)) (by decide) (by decide)) ?_
  refine lv_iadd hx hb dX2_write_95 ?_
  refine g_top (y := nI (unF ct 24 * 4 + q % 4)) (nI_add _ _) ?_
  refine lv_iload_n hx hb dX2_write_96 rfl (lv_at hl 7 rfl) ?_
  refine g_iast (i := (unF ct 24 * 4 + q % 4)) (x := z) (t0 := 0) (ws' := fpW ad cI cQ run (up1 (up1 mp j (up1 (mp j) (q / 4) false)) j (up1 ((up1 mp j (up1 (mp j) (q / 4) false)) j) (q / 4) true)) (up1 fr j (up1 (fr j) (q / 4) (unF ct 24))) (up1 (up1 kd j (upd (kd j) (q / 4) (kd j (q / 4) ^^^ 4))) j (upd ((up1 kd j (upd (kd j) (q / 4) (kd j (q / 4) ^^^ 4))) j) (q / 4) ((up1 kd j (upd (kd j) (q / 4) (kd j (q / 4) ^^^ 4))) j (q / 4)))) (upd (cpW wd (fr j (q / 4)) (unF ct 24)) (unF ct 24 * 4 + q % 4) z) (upd (upd ct (fr j (q / 4)) (ct (fr j (q / 4)) - 1)) (unF ct 24) ((upd ct (fr j (q / 4)) (ct (fr j (q / 4)) - 1)) (unF ct 24) + 1)) (af + 1) (cf + 1)) hx hb hG fp_3 rfl ((by have := unF_lt ct 24 (by decide); omega)) (by decide) (fp_s3 _) dX2_write_97 (fun H locs hG => ?_)
  refine lv_iload hx hb dX2_write_98 (lv_at hl 0 rfl) ?_
  exact g_iret hx hb hr hlk hG dX2_write_100
set_option maxHeartbeats 4000000 in
set_option maxRecDepth 100000 in
theorem fp_free  : gM l yX2_free cX2_free 1 (some .int) 4 90 D cls (fpT cI cQ cZ) A (fpW ad cI cQ run mp fr kd wd ct af cf) [.ref (ad 0)] (some (.int (frF run mp ct))) (fpW ad cI cQ run mp fr kd wd ct af cf) := by
  refine gM_of (by decide) (Nat.le_of_ble_eq_true rfl) ?_
  intro p e s m args below meth c ls hx hb hml hown hts hN hr hlk hl hG
  have hown : s.vm.findClass RX2 = some m.cls := hown
  have hl : lv_has ls 1 [(0, .ref (ad 0))] := hl
  refine lv_aload_n hx hb dX2_free_0 rfl (lv_at hl 0 rfl) ?_
  refine g_callV (As := []) (rest := []) (fs := [.ref (ad 1), .ref (ad 2), .int af, .int cf]) (fm_freeFrames) hx hb hml hown hts hN hG t_74 t_76 s_1 t_1 t_77 nm_X2_freeFrames ⟨by decide, by decide⟩ fp_0 rfl hl.1 (Nat.le_of_ble_eq_true rfl) dX2_free_1 ⟨Nat.zero_le _, Nat.zero_le _⟩ (fun H locs hG => ?_)
  refine W.eq (g2 := F0 m 4 ls [.int (frF run mp ct)]) rfl ?_
  exact g_iret hx hb hr hlk hG dX2_free_4
set_option maxHeartbeats 4000000 in
set_option maxRecDepth 100000 in
theorem fp_tables_1 {x : Int32} (h : ¬ rn run x) : gM l yX2_tables cX2_tables 2 (some .int) 3 68 D cls (fpT cI cQ cZ) A (fpW ad cI cQ run mp fr kd wd ct af cf) [.ref (ad 0), .int x] (some (.int (-1))) (fpW ad cI cQ run mp fr kd wd ct af cf) := by
  refine gM_of (by decide) (Nat.le_of_ble_eq_true rfl) ?_
  intro p e s m args below meth c ls hx hb hml hown hts hN hr hlk hl hG
  have hown : s.vm.findClass RX2 = some m.cls := hown
  have hl : lv_has ls 2 [(0, .ref (ad 0)), (1, .int x)] := hl
  refine lv_aload_n hx hb dX2_tables_0 rfl (lv_at hl 0 rfl) ?_
  refine lv_iload_n hx hb dX2_tables_1 rfl (lv_at hl 1 rfl) ?_
  refine g_callV (As := [.int x]) (rest := []) (fs := [.ref (ad 1), .ref (ad 2), .int af, .int cf]) (fm_isRunning_n h) hx hb hml hown hts hN hG t_97 t_99 s_4 t_1 t_100 nm_X2_isRunning ⟨by decide, by decide⟩ fp_0 rfl hl.1 (Nat.le_of_ble_eq_true rfl) dX2_tables_2 ⟨Nat.zero_le _, Nat.zero_le _⟩ (fun H locs hG => ?_)
  refine W.eq (g2 := F0 m 5 ls [.int 0]) rfl ?_
  refine lv_if_eq (tgt := 20) hx hb dX2_tables_5 rfl (fun _ => ?_) (fun hh => absurd (rfl) hh)
  refine lv_iconst (v := (-1)) hx hb dX2_tables_20 (by decide) ?_
  exact g_iret hx hb hr hlk hG dX2_tables_21
set_option maxHeartbeats 4000000 in
set_option maxRecDepth 100000 in
theorem fp_tables_ok {j : Nat} (hj : j < 5) (h : run j = true) : gM l yX2_tables cX2_tables 2 (some .int) 3 68 D cls (fpT cI cQ cZ) A (fpW ad cI cQ run mp fr kd wd ct af cf) [.ref (ad 0), .int (nI j)] (some (.int (nI (tbN (mp j))))) (fpW ad cI cQ run mp fr kd wd ct af cf) := by
  refine gM_of (by decide) (Nat.le_of_ble_eq_true rfl) ?_
  intro p e s m args below meth c ls hx hb hml hown hts hN hr hlk hl hG
  have hown : s.vm.findClass RX2 = some m.cls := hown
  have hl : lv_has ls 2 [(0, .ref (ad 0)), (1, .int (nI j))] := hl
  refine lv_aload_n hx hb dX2_tables_0 rfl (lv_at hl 0 rfl) ?_
  refine lv_iload_n hx hb dX2_tables_1 rfl (lv_at hl 1 rfl) ?_
  refine g_callV (As := [.int (nI j)]) (rest := []) (fs := [.ref (ad 1), .ref (ad 2), .int af, .int cf]) (fm_isRunning_t hj h) hx hb hml hown hts hN hG t_97 t_99 s_4 t_1 t_100 nm_X2_isRunning ⟨by decide, by decide⟩ fp_0 rfl hl.1 (Nat.le_of_ble_eq_true rfl) dX2_tables_2 ⟨Nat.zero_le _, Nat.zero_le _⟩ (fun H locs hG => ?_)
  refine W.eq (g2 := F0 m 5 ls [.int 1]) rfl ?_
  refine lv_if_eq (tgt := 20) hx hb dX2_tables_5 rfl (fun hh => absurd hh (by decide)) (fun _ => ?_)
  refine lv_aload_n hx hb dX2_tables_8 rfl (lv_at hl 0 rfl) ?_
  refine g_get (k := 0) (v := .ref (ad 1)) (C := RX2) (ref := RX2) (fs := [.ref (ad 1), .ref (ad 2), .int af, .int cf]) hx hb hown hts hG gX2 rfl fp_0 (by decide) t_53 rfl rfl dX2_tables_9 ?_
  refine lv_iload_n hx hb dX2_tables_12 rfl (lv_at hl 1 rfl) ?_
  refine g_aald (i := j) (t0 := 1) hx hb hG fp_1 rfl (hj) (by decide) rfl dX2_tables_13 ?_
  refine g_callVN (As := []) (rest := []) (fs := [.int (bI (run j)), .long (en (mp j)), .ref (ad (6 + 3 * j)), .ref (ad (7 + 3 * j))]) (fm_tableCount hj) hx hb hml hown hts hN hG t_82 t_84 s_3 t_2 t_85 nm_X0_tableCount ⟨by decide, by decide⟩ (fp_5 (hj)) rfl hl.1 (Nat.le_of_ble_eq_true rfl) dX2_tables_14 ⟨Nat.zero_le _, Nat.zero_le _⟩ (fun H locs hG => ?_)
  refine W.eq (g2 := F0 m 17 ls [.int (nI (tbN (mp j)))]) rfl ?_
  refine lv_goto (tgt := 21) hx hb dX2_tables_17 rfl ?_
  exact g_iret hx hb hr hlk hG dX2_tables_21
set_option maxHeartbeats 4000000 in
set_option maxRecDepth 100000 in
theorem fp_pages_1 {x : Int32} (h : ¬ rn run x) : gM l yX2_pages cX2_pages 2 (some .int) 1 21 D cls (fpT cI cQ cZ) A (fpW ad cI cQ run mp fr kd wd ct af cf) [.ref (ad 0), .int x] (some (.int (-1))) (fpW ad cI cQ run mp fr kd wd ct af cf) := by
  refine gM_of (by decide) (Nat.le_of_ble_eq_true rfl) ?_
  intro p e s m args below meth c ls hx hb hml hown hts hN hr hlk hl hG
  have hown : s.vm.findClass RX2 = some m.cls := hown
  have hl : lv_has ls 2 [(0, .ref (ad 0)), (1, .int x)] := hl
  refine lv_aload_n hx hb dX2_pages_0 rfl (lv_at hl 0 rfl) ?_
  refine lv_iload_n hx hb dX2_pages_1 rfl (lv_at hl 1 rfl) ?_
  refine g_callV (As := [.int x]) (rest := []) (fs := [.ref (ad 1), .ref (ad 2), .int af, .int cf]) (fm_isRunning_n h) hx hb hml hown hts hN hG t_97 t_99 s_4 t_1 t_100 nm_X2_isRunning ⟨by decide, by decide⟩ fp_0 rfl hl.1 (Nat.le_of_ble_eq_true rfl) dX2_pages_2 ⟨Nat.zero_le _, Nat.zero_le _⟩ (fun H locs hG => ?_)
  refine W.eq (g2 := F0 m 5 ls [.int 0]) rfl ?_
  refine lv_if_eq (tgt := 23) hx hb dX2_pages_5 rfl (fun _ => ?_) (fun hh => absurd (rfl) hh)
  refine lv_iconst (v := (-1)) hx hb dX2_pages_23 (by decide) ?_
  exact g_iret hx hb hr hlk hG dX2_pages_24
set_option maxHeartbeats 4000000 in
set_option maxRecDepth 100000 in
theorem fp_pages_ok {j : Nat} (hj : j < 5) (h : run j = true) : gM l yX2_pages cX2_pages 2 (some .int) 1 21 D cls (fpT cI cQ cZ) A (fpW ad cI cQ run mp fr kd wd ct af cf) [.ref (ad 0), .int (nI j)] (some (.int (bcI (en (mp j))))) (fpW ad cI cQ run mp fr kd wd ct af cf) := by
  refine gM_of (by decide) (Nat.le_of_ble_eq_true rfl) ?_
  intro p e s m args below meth c ls hx hb hml hown hts hN hr hlk hl hG
  have hown : s.vm.findClass RX2 = some m.cls := hown
  have hl : lv_has ls 2 [(0, .ref (ad 0)), (1, .int (nI j))] := hl
  refine lv_aload_n hx hb dX2_pages_0 rfl (lv_at hl 0 rfl) ?_
  refine lv_iload_n hx hb dX2_pages_1 rfl (lv_at hl 1 rfl) ?_
  refine g_callV (As := [.int (nI j)]) (rest := []) (fs := [.ref (ad 1), .ref (ad 2), .int af, .int cf]) (fm_isRunning_t hj h) hx hb hml hown hts hN hG t_97 t_99 s_4 t_1 t_100 nm_X2_isRunning ⟨by decide, by decide⟩ fp_0 rfl hl.1 (Nat.le_of_ble_eq_true rfl) dX2_pages_2 ⟨Nat.zero_le _, Nat.zero_le _⟩ (fun H locs hG => ?_)
  refine W.eq (g2 := F0 m 5 ls [.int 1]) rfl ?_
  refine lv_if_eq (tgt := 23) hx hb dX2_pages_5 rfl (fun hh => absurd hh (by decide)) (fun _ => ?_)
  refine lv_aload_n hx hb dX2_pages_8 rfl (lv_at hl 0 rfl) ?_
  refine g_get (k := 0) (v := .ref (ad 1)) (C := RX2) (ref := RX2) (fs := [.ref (ad 1), .ref (ad 2), .int af, .int cf]) hx hb hown hts hG gX2 rfl fp_0 (by decide) t_53 rfl rfl dX2_pages_9 ?_
  refine lv_iload_n hx hb dX2_pages_12 rfl (lv_at hl 1 rfl) ?_
  refine g_aald (i := j) (t0 := 1) hx hb hG fp_1 rfl (hj) (by decide) rfl dX2_pages_13 ?_
  refine g_getN (k := 1) (v := .long (en (mp j))) (C := RX0) (ref := RX0) (fs := [.int (bI (run j)), .long (en (mp j)), .ref (ad (6 + 3 * j)), .ref (ad (7 + 3 * j))]) hx hb hown hts hN hG gX0 rfl (fp_5 (hj)) (by decide) t_23 rfl rfl dX2_pages_14 ?_
  refine g_callS (As := [.long (en (mp j))]) (rest := []) (fm_bitCount) hx hb hml hown hts hN hG t_206 t_207 t_5 t_208 nm_J13_bitCount_95d88 ⟨by decide, by decide⟩ hl.1 (Nat.le_of_ble_eq_true rfl) dX2_pages_17 ⟨Nat.zero_le _, Nat.zero_le _⟩ (fun H locs hG => ?_)
  refine W.eq (g2 := F0 m 20 ls [.int (bcI (en (mp j)))]) rfl ?_
  refine lv_goto (tgt := 24) hx hb dX2_pages_20 rfl ?_
  exact g_iret hx hb hr hlk hG dX2_pages_24
set_option maxHeartbeats 4000000 in
set_option maxRecDepth 100000 in
theorem fp_faults_c {z : Int32} (h : ¬ z = 0) : gM l yX2_faults cX2_faults 2 (some .int) 0 0 D cls (fpT cI cQ cZ) A (fpW ad cI cQ run mp fr kd wd ct af cf) [.ref (ad 0), .int z] (some (.int cf)) (fpW ad cI cQ run mp fr kd wd ct af cf) := by
  refine gM_of (by decide) (Nat.le_of_ble_eq_true rfl) ?_
  intro p e s m args below meth c ls hx hb hml hown hts hN hr hlk hl hG
  have hown : s.vm.findClass RX2 = some m.cls := hown
  have hl : lv_has ls 2 [(0, .ref (ad 0)), (1, .int z)] := hl
  refine lv_iload_n hx hb dX2_faults_0 rfl (lv_at hl 1 rfl) ?_
  refine lv_if_eq (tgt := 11) hx hb dX2_faults_1 rfl (fun hh => absurd hh (h)) (fun _ => ?_)
  refine lv_aload_n hx hb dX2_faults_4 rfl (lv_at hl 0 rfl) ?_
  refine g_get (k := 3) (v := .int cf) (C := RX2) (ref := RX2) (fs := [.ref (ad 1), .ref (ad 2), .int af, .int cf]) hx hb hown hts hG gX2 rfl fp_0 (by decide) t_56 rfl rfl dX2_faults_5 ?_
  refine lv_goto (tgt := 15) hx hb dX2_faults_8 rfl ?_
  exact g_iret hx hb hr hlk hG dX2_faults_15
set_option maxHeartbeats 4000000 in
set_option maxRecDepth 100000 in
theorem fp_faults_a {z : Int32} (h : z = 0) : gM l yX2_faults cX2_faults 2 (some .int) 0 0 D cls (fpT cI cQ cZ) A (fpW ad cI cQ run mp fr kd wd ct af cf) [.ref (ad 0), .int z] (some (.int af)) (fpW ad cI cQ run mp fr kd wd ct af cf) := by
  refine gM_of (by decide) (Nat.le_of_ble_eq_true rfl) ?_
  intro p e s m args below meth c ls hx hb hml hown hts hN hr hlk hl hG
  have hown : s.vm.findClass RX2 = some m.cls := hown
  have hl : lv_has ls 2 [(0, .ref (ad 0)), (1, .int z)] := hl
  refine lv_iload_n hx hb dX2_faults_0 rfl (lv_at hl 1 rfl) ?_
  refine lv_if_eq (tgt := 11) hx hb dX2_faults_1 rfl (fun _ => ?_) (fun hh => absurd (h) hh)
  refine lv_aload_n hx hb dX2_faults_11 rfl (lv_at hl 0 rfl) ?_
  refine g_get (k := 2) (v := .int af) (C := RX2) (ref := RX2) (fs := [.ref (ad 1), .ref (ad 2), .int af, .int cf]) hx hb hown hts hG gX2 rfl fp_0 (by decide) t_55 rfl rfl dX2_faults_12 ?_
  exact g_iret hx hb hr hlk hG dX2_faults_15
def rnS (run : Nat → Bool) : Nat → Int32
  | 0 => nI 0
  | n + 1 => if run n then rnS run n + (nI 1 <<< (nI n &&& 31)) else rnS run n
set_option maxHeartbeats 4000000 in
set_option maxRecDepth 100000 in
theorem fp_running  : gM l yX2_running cX2_running 3 (some .int) 0 0 D cls (fpT cI cQ cZ) A (fpW ad cI cQ run mp fr kd wd ct af cf) [.ref (ad 0)] (some (.int (rnS run 5))) (fpW ad cI cQ run mp fr kd wd ct af cf) := by
  refine gM_of (by decide) (Nat.le_of_ble_eq_true rfl) ?_
  intro p e s m args below meth c ls hx hb hml hown hts hN hr hlk hl hG
  have hown : s.vm.findClass RX2 = some m.cls := hown
  have hl : lv_has ls 3 [(0, .ref (ad 0))] := hl
  refine lv_iconst (v := nI 0) hx hb dX2_running_0 (by decide) ?_
  refine lv_istore_n (lv' := [(1, .int (nI 0)), (0, .ref (ad 0))]) hx hb dX2_running_1 rfl hl (by decide) rfl (fun ls hl => ?_)
  refine lv_iconst (v := nI 0) hx hb dX2_running_2 (by decide) ?_
  refine lv_istore_n (lv' := [(2, .int (nI 0)), (1, .int (nI 0)), (0, .ref (ad 0))]) hx hb dX2_running_3 rfl hl (by decide) rfl (fun ls hl => ?_)
  have loop : ∀ (n i : Nat) (ls : Array Slot), i + n = 5 → lv_has ls 3 [(2, .int (nI i)), (1, .int (rnS run i)), (0, .ref (ad 0))] → W p l e (gR 0 0) s m args below meth c s.heap [] 0 0 (gQ below args s D cls (fpT cI cQ cZ) A (some (.int (rnS run 5))) (fpW ad cI cQ run mp fr kd wd ct af cf)) (F0 m 4 ls []) := by
    intro n
    induction n with
    | zero =>
      intro i ls hi hl
      obtain rfl : i = 5 := by omega
      refine lv_iload_n hx hb dX2_running_4 rfl (lv_at hl 0 rfl) ?_
      refine lv_iconst (v := nI 5) hx hb dX2_running_5 (by decide) ?_
      refine lv_icmp_ge (tgt := 33) hx hb dX2_running_6 rfl (fun _ => ?_) (fun hh => absurd (nI_le (Nat.le_refl 5) (by decide)) hh)
      refine lv_iload_n hx hb dX2_running_33 rfl (lv_at hl 1 rfl) ?_
      exact g_iret hx hb hr hlk hG dX2_running_34
    | succ n ih =>
      intro i ls hi hl
      have hi5 : i < 5 := by omega
      cases hc : run i
      · have hu : rnS run (i + 1) = rnS run i := by simp [rnS, hc]
        refine lv_iload_n hx hb dX2_running_4 rfl (lv_at hl 0 rfl) ?_
        refine lv_iconst (v := nI 5) hx hb dX2_running_5 (by decide) ?_
        refine lv_icmp_ge (tgt := 33) hx hb dX2_running_6 rfl (fun hh => absurd hh (nI_ge hi5 (by decide))) (fun _ => ?_)
        refine lv_aload_n hx hb dX2_running_9 rfl (lv_at hl 2 rfl) ?_
        refine g_get (k := 0) (v := .ref (ad 1)) (C := RX2) (ref := RX2) (fs := [.ref (ad 1), .ref (ad 2), .int af, .int cf]) hx hb hown hts hG gX2 rfl fp_0 (by decide) t_53 rfl rfl dX2_running_10 ?_
        refine lv_iload_n hx hb dX2_running_13 rfl (lv_at hl 0 rfl) ?_
        refine g_aald (i := i) (t0 := 1) hx hb hG fp_1 rfl (hi5) (by decide) rfl dX2_running_14 ?_
        refine g_getN (k := 0) (v := .int (bI (run i))) (C := RX0) (ref := RX0) (fs := [.int (bI (run i)), .long (en (mp i)), .ref (ad (6 + 3 * i)), .ref (ad (7 + 3 * i))]) hx hb hown hts hN hG gX0 rfl (fp_5 (hi5)) (by decide) t_21 rfl rfl dX2_running_15 ?_
        refine g_top (y := 0) (by rw [hc]; rfl) ?_
        refine lv_if_eq (tgt := 27) hx hb dX2_running_18 rfl (fun _ => ?_) (fun hh => absurd (rfl) hh)
        refine lv_iinc (k := 0) (v := nI (i + 1)) (lv' := [(2, .int (nI (i + 1))), (1, .int (rnS run i)), (0, .ref (ad 0))]) hx hb dX2_running_27 hl rfl (nI_1 i) (by decide) rfl (fun ls hl => ?_)
        refine lv_goto (tgt := 4) hx hb dX2_running_30 rfl ?_
        exact ih (i + 1) _ (by omega) (by rw [hu]; exact lv_sub hl [0, 1, 2] rfl)
      · have hu : rnS run (i + 1) = rnS run i + (nI 1 <<< (nI i &&& 31)) := by simp [rnS, hc]
        refine lv_iload_n hx hb dX2_running_4 rfl (lv_at hl 0 rfl) ?_
        refine lv_iconst (v := nI 5) hx hb dX2_running_5 (by decide) ?_
        refine lv_icmp_ge (tgt := 33) hx hb dX2_running_6 rfl (fun hh => absurd hh (nI_ge hi5 (by decide))) (fun _ => ?_)
        refine lv_aload_n hx hb dX2_running_9 rfl (lv_at hl 2 rfl) ?_
        refine g_get (k := 0) (v := .ref (ad 1)) (C := RX2) (ref := RX2) (fs := [.ref (ad 1), .ref (ad 2), .int af, .int cf]) hx hb hown hts hG gX2 rfl fp_0 (by decide) t_53 rfl rfl dX2_running_10 ?_
        refine lv_iload_n hx hb dX2_running_13 rfl (lv_at hl 0 rfl) ?_
        refine g_aald (i := i) (t0 := 1) hx hb hG fp_1 rfl (hi5) (by decide) rfl dX2_running_14 ?_
        refine g_getN (k := 0) (v := .int (bI (run i))) (C := RX0) (ref := RX0) (fs := [.int (bI (run i)), .long (en (mp i)), .ref (ad (6 + 3 * i)), .ref (ad (7 + 3 * i))]) hx hb hown hts hN hG gX0 rfl (fp_5 (hi5)) (by decide) t_21 rfl rfl dX2_running_15 ?_
        refine g_top (y := 1) (by rw [hc]; rfl) ?_
        refine lv_if_eq (tgt := 27) hx hb dX2_running_18 rfl (fun hh => absurd hh (by decide)) (fun _ => ?_)
        refine lv_iload_n hx hb dX2_running_21 rfl (lv_at hl 1 rfl) ?_
        refine lv_iconst (v := nI 1) hx hb dX2_running_22 (by decide) ?_
        refine lv_iload_n hx hb dX2_running_23 rfl (lv_at hl 0 rfl) ?_
        refine lv_ishl hx hb dX2_running_24 ?_
        refine lv_iadd hx hb dX2_running_25 ?_
        refine lv_istore_n (lv' := [(1, .int ((rnS run i) + ((nI 1) <<< ((nI i) &&& 31)))), (2, .int (nI i)), (0, .ref (ad 0))]) hx hb dX2_running_26 rfl hl (by decide) rfl (fun ls hl => ?_)
        refine lv_iinc (k := 1) (v := nI (i + 1)) (lv' := [(2, .int (nI (i + 1))), (1, .int ((rnS run i) + ((nI 1) <<< ((nI i) &&& 31)))), (0, .ref (ad 0))]) hx hb dX2_running_27 hl rfl (nI_1 i) (by decide) rfl (fun ls hl => ?_)
        refine lv_goto (tgt := 4) hx hb dX2_running_30 rfl ?_
        exact ih (i + 1) _ (by omega) (by rw [hu]; exact lv_sub hl [0, 1, 2] rfl)
  exact loop 5 0 _ (by omega) (lv_sub hl [0, 1, 2] rfl)
set_option maxHeartbeats 4000000 in
set_option maxRecDepth 100000 in
theorem fp_twin_1 {x y u v : Int32} (h : ¬ rn run u) : gM l yX2_twin cX2_twin 9 (some .int) 2 43 D cls (fpT cI cQ cZ) A (fpW ad cI cQ run mp fr kd wd ct af cf) [.ref (ad 0), .int x, .int y, .int u, .int v] (some (.int (-1))) (fpW ad cI cQ run mp fr kd wd ct af cf) := by
  refine gM_of (by decide) (Nat.le_of_ble_eq_true rfl) ?_
  intro p e s m args below meth c ls hx hb hml hown hts hN hr hlk hl hG
  have hown : s.vm.findClass RX2 = some m.cls := hown
  have hl : lv_has ls 9 [(0, .ref (ad 0)), (1, .int x), (2, .int y), (3, .int u), (4, .int v)] := hl
  refine lv_aload_n hx hb dX2_twin_0 rfl (lv_at hl 0 rfl) ?_
  refine lv_iload_n hx hb dX2_twin_1 rfl (lv_at hl 3 rfl) ?_
  refine g_callV (As := [.int u]) (rest := []) (fs := [.ref (ad 1), .ref (ad 2), .int af, .int cf]) (fm_isRunning_n h) hx hb hml hown hts hN hG t_97 t_99 s_4 t_1 t_100 nm_X2_isRunning ⟨by decide, by decide⟩ fp_0 rfl hl.1 (Nat.le_of_ble_eq_true rfl) dX2_twin_2 ⟨Nat.zero_le _, Nat.zero_le _⟩ (fun H locs hG => ?_)
  refine W.eq (g2 := F0 m 5 ls [.int 0]) rfl ?_
  refine lv_if_ne (tgt := 10) hx hb dX2_twin_5 rfl (fun hh => absurd (rfl) hh) (fun _ => ?_)
  refine lv_iconst (v := (-1)) hx hb dX2_twin_8 (by decide) ?_
  exact g_iret hx hb hr hlk hG dX2_twin_9
set_option maxHeartbeats 4000000 in
set_option maxRecDepth 100000 in
theorem fp_twin_no {n : Nat} {x y v r : Int32} (hn : n < 5) (h : run n = true) (hr0 : ¬ r = 0) (hM : gM l yX2_refusalOfMapped cX2_refusalOfMapped 3 (some .int) 1 21 D cls (fpT cI cQ cZ) A (fpW ad cI cQ run mp fr kd wd ct af cf) [.ref (ad 0), .int x, .int y] (some (.int r)) (fpW ad cI cQ run mp fr kd wd ct af cf)) : gM l yX2_twin cX2_twin 9 (some .int) 2 43 D cls (fpT cI cQ cZ) A (fpW ad cI cQ run mp fr kd wd ct af cf) [.ref (ad 0), .int x, .int y, .int (nI n), .int v] (some (.int r)) (fpW ad cI cQ run mp fr kd wd ct af cf) := by
  refine gM_of (by decide) (Nat.le_of_ble_eq_true rfl) ?_
  intro p e s m args below meth c ls hx hb hml hown hts hN hr hlk hl hG
  have hown : s.vm.findClass RX2 = some m.cls := hown
  have hl : lv_has ls 9 [(0, .ref (ad 0)), (1, .int x), (2, .int y), (3, .int (nI n)), (4, .int v)] := hl
  refine lv_aload_n hx hb dX2_twin_0 rfl (lv_at hl 0 rfl) ?_
  refine lv_iload_n hx hb dX2_twin_1 rfl (lv_at hl 3 rfl) ?_
  refine g_callV (As := [.int (nI n)]) (rest := []) (fs := [.ref (ad 1), .ref (ad 2), .int af, .int cf]) (fm_isRunning_t hn h) hx hb hml hown hts hN hG t_97 t_99 s_4 t_1 t_100 nm_X2_isRunning ⟨by decide, by decide⟩ fp_0 rfl hl.1 (Nat.le_of_ble_eq_true rfl) dX2_twin_2 ⟨Nat.zero_le _, Nat.zero_le _⟩ (fun H locs hG => ?_)
  refine W.eq (g2 := F0 m 5 ls [.int 1]) rfl ?_
  refine lv_if_ne (tgt := 10) hx hb dX2_twin_5 rfl (fun _ => ?_) (fun hh => absurd hh (by decide))
  refine lv_aload_n hx hb dX2_twin_10 rfl (lv_at hl 0 rfl) ?_
  refine lv_iload_n hx hb dX2_twin_11 rfl (lv_at hl 1 rfl) ?_
  refine lv_iload_n hx hb dX2_twin_12 rfl (lv_at hl 2 rfl) ?_
  refine g_callV (As := [.int x, .int y]) (rest := []) (fs := [.ref (ad 1), .ref (ad 2), .int af, .int cf]) (hM) hx hb hml hown hts hN hG t_165 t_167 s_16 t_1 t_168 nm_X2_refusalOfMapped ⟨by decide, by decide⟩ fp_0 rfl hl.1 (Nat.le_of_ble_eq_true rfl) dX2_twin_13 ⟨Nat.zero_le _, Nat.zero_le _⟩ (fun H locs hG => ?_)
  refine W.eq (g2 := F0 m 16 ls [.int r]) rfl ?_
  refine lv_istore (lv' := [(5, .int r), (0, .ref (ad 0)), (1, .int x), (2, .int y), (3, .int (nI n)), (4, .int v)]) hx hb dX2_twin_16 hl (by decide) rfl (fun ls hl => ?_)
  refine lv_iload hx hb dX2_twin_18 (lv_at hl 0 rfl) ?_
  refine lv_if_eq (tgt := 26) hx hb dX2_twin_20 rfl (fun hh => absurd hh (hr0)) (fun _ => ?_)
  refine lv_iload hx hb dX2_twin_23 (lv_at hl 0 rfl) ?_
  exact g_iret hx hb hr hlk hG dX2_twin_25
def twP (mp : Nat → Nat → Bool) (fr : Nat → Nat → Nat) (n f : Nat) (v : Int32) (i : Nat) : Prop := v < nI i ∧ mp n i = true ∧ fr n i = f
set_option maxHeartbeats 4000000 in
set_option maxRecDepth 100000 in
theorem fp_twin_none {j n k : Nat} {v : Int32} (hj : j < 5) (h : run j = true) (hn : n < 5) (h1 : run n = true) (hk : k < 64) (h2 : mp j k = true) (hf : fr j k < 24) (hfn : ∀ i, i < 64 → mp n i = true → fr n i < 24) (hm : ∀ i, i < 64 → ¬ twP mp fr n (fr j k) v i) : gM l yX2_twin cX2_twin 9 (some .int) 2 43 D cls (fpT cI cQ cZ) A (fpW ad cI cQ run mp fr kd wd ct af cf) [.ref (ad 0), .int (nI j), .int (nI k), .int (nI n), .int v] (some (.int (nI 64))) (fpW ad cI cQ run mp fr kd wd ct af cf) := by
  refine gM_of (by decide) (Nat.le_of_ble_eq_true rfl) ?_
  intro p e s m args below meth c ls hx hb hml hown hts hN hr hlk hl hG
  have hown : s.vm.findClass RX2 = some m.cls := hown
  have hl : lv_has ls 9 [(0, .ref (ad 0)), (1, .int (nI j)), (2, .int (nI k)), (3, .int (nI n)), (4, .int v)] := hl
  refine lv_aload_n hx hb dX2_twin_0 rfl (lv_at hl 0 rfl) ?_
  refine lv_iload_n hx hb dX2_twin_1 rfl (lv_at hl 3 rfl) ?_
  refine g_callV (As := [.int (nI n)]) (rest := []) (fs := [.ref (ad 1), .ref (ad 2), .int af, .int cf]) (fm_isRunning_t hn h1) hx hb hml hown hts hN hG t_97 t_99 s_4 t_1 t_100 nm_X2_isRunning ⟨by decide, by decide⟩ fp_0 rfl hl.1 (Nat.le_of_ble_eq_true rfl) dX2_twin_2 ⟨Nat.zero_le _, Nat.zero_le _⟩ (fun H locs hG => ?_)
  refine W.eq (g2 := F0 m 5 ls [.int 1]) rfl ?_
  refine lv_if_ne (tgt := 10) hx hb dX2_twin_5 rfl (fun _ => ?_) (fun hh => absurd hh (by decide))
  refine lv_aload_n hx hb dX2_twin_10 rfl (lv_at hl 0 rfl) ?_
  refine lv_iload_n hx hb dX2_twin_11 rfl (lv_at hl 1 rfl) ?_
  refine lv_iload_n hx hb dX2_twin_12 rfl (lv_at hl 2 rfl) ?_
  refine g_callV (As := [.int (nI j), .int (nI k)]) (rest := []) (fs := [.ref (ad 1), .ref (ad 2), .int af, .int cf]) (fm_rM_0 hj h hk h2) hx hb hml hown hts hN hG t_165 t_167 s_16 t_1 t_168 nm_X2_refusalOfMapped ⟨by decide, by decide⟩ fp_0 rfl hl.1 (Nat.le_of_ble_eq_true rfl) dX2_twin_13 ⟨Nat.zero_le _, Nat.zero_le _⟩ (fun H locs hG => ?_)
  refine W.eq (g2 := F0 m 16 ls [.int 0]) rfl ?_
  refine lv_istore (lv' := [(5, .int 0), (0, .ref (ad 0)), (1, .int (nI j)), (2, .int (nI k)), (3, .int (nI n)), (4, .int v)]) hx hb dX2_twin_16 hl (by decide) rfl (fun ls hl => ?_)
  refine lv_iload hx hb dX2_twin_18 (lv_at hl 0 rfl) ?_
  refine lv_if_eq (tgt := 26) hx hb dX2_twin_20 rfl (fun _ => ?_) (fun hh => absurd (rfl) hh)
  refine lv_aload_n hx hb dX2_twin_26 rfl (lv_at hl 1 rfl) ?_
  refine g_get (k := 0) (v := .ref (ad 1)) (C := RX2) (ref := RX2) (fs := [.ref (ad 1), .ref (ad 2), .int af, .int cf]) hx hb hown hts hG gX2 rfl fp_0 (by decide) t_53 rfl rfl dX2_twin_27 ?_
  refine lv_iload_n hx hb dX2_twin_30 rfl (lv_at hl 2 rfl) ?_
  refine g_aald (i := j) (t0 := 1) hx hb hG fp_1 rfl (hj) (by decide) rfl dX2_twin_31 ?_
  refine g_getN (k := 2) (v := .ref (ad (6 + 3 * j))) (C := RX0) (ref := RX0) (fs := [.int (bI (run j)), .long (en (mp j)), .ref (ad (6 + 3 * j)), .ref (ad (7 + 3 * j))]) hx hb hown hts hN hG gX0 rfl (fp_5 (hj)) (by decide) t_25 rfl rfl dX2_twin_32 ?_
  refine lv_iload_n hx hb dX2_twin_35 rfl (lv_at hl 3 rfl) ?_
  refine g_iald (i := k) (t0 := 0) hx hb hG (fp_6 (hj)) rfl (hk) (by decide) dX2_twin_36 ?_
  refine lv_istore (lv' := [(6, .int (nI (fr j k))), (5, .int 0), (0, .ref (ad 0)), (1, .int (nI j)), (2, .int (nI k)), (3, .int (nI n)), (4, .int v)]) hx hb dX2_twin_37 hl (by decide) rfl (fun ls hl => ?_)
  refine lv_aload_n hx hb dX2_twin_39 rfl (lv_at hl 2 rfl) ?_
  refine g_get (k := 0) (v := .ref (ad 1)) (C := RX2) (ref := RX2) (fs := [.ref (ad 1), .ref (ad 2), .int af, .int cf]) hx hb hown hts hG gX2 rfl fp_0 (by decide) t_53 rfl rfl dX2_twin_40 ?_
  refine lv_iload_n hx hb dX2_twin_43 rfl (lv_at hl 5 rfl) ?_
  refine g_aald (i := n) (t0 := 1) hx hb hG fp_1 rfl (hn) (by decide) rfl dX2_twin_44 ?_
  refine lv_astore (lv' := [(7, .ref (ad (5 + 3 * n))), (6, .int (nI (fr j k))), (5, .int 0), (0, .ref (ad 0)), (1, .int (nI j)), (2, .int (nI k)), (3, .int (nI n)), (4, .int v)]) hx hb dX2_twin_45 hl (by decide) rfl (fun ls hl => ?_)
  refine lv_iconst (v := nI 0) hx hb dX2_twin_47 (by decide) ?_
  refine lv_istore (lv' := [(8, .int (nI 0)), (7, .ref (ad (5 + 3 * n))), (6, .int (nI (fr j k))), (5, .int 0), (0, .ref (ad 0)), (1, .int (nI j)), (2, .int (nI k)), (3, .int (nI n)), (4, .int v)]) hx hb dX2_twin_48 hl (by decide) rfl (fun ls hl => ?_)
  have loop : ∀ (n0 i : Nat) (H : Heap) (locs : List Loc) (ls : Array Slot), i + n0 = 64 → gG D cls (fpT cI cQ cZ) A s (fpW ad cI cQ run mp fr kd wd ct af cf) H locs → lv_has ls 9 [(8, .int (nI i)), (7, .ref (ad (5 + 3 * n))), (6, .int (nI (fr j k))), (5, .int 0), (0, .ref (ad 0)), (1, .int (nI j)), (2, .int (nI k)), (3, .int (nI n)), (4, .int v)] → W p l e (gR 2 43) s m args below meth c H locs 0 0 (gQ below args s D cls (fpT cI cQ cZ) A (some (.int (nI 64))) (fpW ad cI cQ run mp fr kd wd ct af cf)) (F0 m 50 ls []) := by
    intro n0
    induction n0 with
    | zero =>
      intro i H locs ls hi hG hl
      obtain rfl : i = 64 := by omega
      refine lv_iload hx hb dX2_twin_50 (lv_at hl 0 rfl) ?_
      refine lv_bipush (v := nI 64) hx hb dX2_twin_52 (by decide) ?_
      refine lv_icmp_ge (tgt := 96) hx hb dX2_twin_54 rfl (fun _ => ?_) (fun hh => absurd (nI_le (Nat.le_refl 64) (by decide)) hh)
      refine lv_bipush (v := nI 64) hx hb dX2_twin_96 (by decide) ?_
      exact g_iret hx hb hr hlk hG dX2_twin_98
    | succ n0 ih =>
      intro i H locs ls hi hG hl
      have hi6 : i < 64 := by omega
      have hno := hm i (by omega)
      by_cases hv : v < nI i
      · cases hc : mp n i
        · refine lv_iload hx hb dX2_twin_50 (lv_at hl 0 rfl) ?_
          refine lv_bipush (v := nI 64) hx hb dX2_twin_52 (by decide) ?_
          refine lv_icmp_ge (tgt := 96) hx hb dX2_twin_54 rfl (fun hh => absurd hh (nI_ge hi6 (by decide))) (fun _ => ?_)
          refine lv_iload hx hb dX2_twin_57 (lv_at hl 0 rfl) ?_
          refine lv_iload hx hb dX2_twin_59 (lv_at hl 8 rfl) ?_
          refine lv_icmp_le (tgt := 90) hx hb dX2_twin_61 rfl (fun hh => absurd hh (Int32.not_le.mpr hv)) (fun _ => ?_)
          refine lv_aload hx hb dX2_twin_64 (lv_at hl 1 rfl) ?_
          refine lv_iload hx hb dX2_twin_66 (lv_at hl 0 rfl) ?_
          refine g_callVN (As := [.int (nI i)]) (rest := []) (fs := [.int (bI (run n)), .long (en (mp n)), .ref (ad (6 + 3 * n)), .ref (ad (7 + 3 * n))]) (fm_has_f hn hi6 hc) hx hb hml hown hts hN hG t_101 t_103 s_5 t_2 t_104 nm_X0_has ⟨by decide, by decide⟩ (fp_5 (hn)) rfl hl.1 (Nat.le_of_ble_eq_true rfl) dX2_twin_68 ⟨Nat.zero_le _, Nat.zero_le _⟩ (fun H locs hG => ?_)
          refine W.eq (g2 := F0 m 71 ls [.int 0]) rfl ?_
          refine lv_if_eq (tgt := 90) hx hb dX2_twin_71 rfl (fun _ => ?_) (fun hh => absurd (rfl) hh)
          refine lv_iinc (k := 0) (v := nI (i + 1)) (lv' := [(8, .int (nI (i + 1))), (7, .ref (ad (5 + 3 * n))), (6, .int (nI (fr j k))), (5, .int 0), (0, .ref (ad 0)), (1, .int (nI j)), (2, .int (nI k)), (3, .int (nI n)), (4, .int v)]) hx hb dX2_twin_90 hl rfl (nI_1 i) (by decide) rfl (fun ls hl => ?_)
          refine lv_goto (tgt := 50) hx hb dX2_twin_93 rfl ?_
          exact ih (i + 1) _ _ _ (by omega) hG (lv_sub hl [0, 1, 2, 3, 4, 5, 6, 7, 8] rfl)
        · refine lv_iload hx hb dX2_twin_50 (lv_at hl 0 rfl) ?_
          refine lv_bipush (v := nI 64) hx hb dX2_twin_52 (by decide) ?_
          refine lv_icmp_ge (tgt := 96) hx hb dX2_twin_54 rfl (fun hh => absurd hh (nI_ge hi6 (by decide))) (fun _ => ?_)
          refine lv_iload hx hb dX2_twin_57 (lv_at hl 0 rfl) ?_
          refine lv_iload hx hb dX2_twin_59 (lv_at hl 8 rfl) ?_
          refine lv_icmp_le (tgt := 90) hx hb dX2_twin_61 rfl (fun hh => absurd hh (Int32.not_le.mpr hv)) (fun _ => ?_)
          refine lv_aload hx hb dX2_twin_64 (lv_at hl 1 rfl) ?_
          refine lv_iload hx hb dX2_twin_66 (lv_at hl 0 rfl) ?_
          refine g_callVN (As := [.int (nI i)]) (rest := []) (fs := [.int (bI (run n)), .long (en (mp n)), .ref (ad (6 + 3 * n)), .ref (ad (7 + 3 * n))]) (fm_has_t hn hi6 hc) hx hb hml hown hts hN hG t_101 t_103 s_5 t_2 t_104 nm_X0_has ⟨by decide, by decide⟩ (fp_5 (hn)) rfl hl.1 (Nat.le_of_ble_eq_true rfl) dX2_twin_68 ⟨Nat.zero_le _, Nat.zero_le _⟩ (fun H locs hG => ?_)
          refine W.eq (g2 := F0 m 71 ls [.int 1]) rfl ?_
          refine lv_if_eq (tgt := 90) hx hb dX2_twin_71 rfl (fun hh => absurd hh (by decide)) (fun _ => ?_)
          refine lv_aload hx hb dX2_twin_74 (lv_at hl 1 rfl) ?_
          refine g_getN (k := 2) (v := .ref (ad (6 + 3 * n))) (C := RX0) (ref := RX0) (fs := [.int (bI (run n)), .long (en (mp n)), .ref (ad (6 + 3 * n)), .ref (ad (7 + 3 * n))]) hx hb hown hts hN hG gX0 rfl (fp_5 (hn)) (by decide) t_25 rfl rfl dX2_twin_76 ?_
          refine lv_iload hx hb dX2_twin_79 (lv_at hl 0 rfl) ?_
          refine g_iald (i := i) (t0 := 0) hx hb hG (fp_6 (hn)) rfl (hi6) (by decide) dX2_twin_81 ?_
          refine lv_iload hx hb dX2_twin_82 (lv_at hl 2 rfl) ?_
          refine lv_icmp_ne (tgt := 90) hx hb dX2_twin_84 rfl (fun _ => ?_) (fun hh => absurd hh (fun q => hno ⟨hv, hc, (nI_eq (Nat.lt_trans (hfn i hi6 hc) (by decide)) (Nat.lt_trans hf (by decide))).mp q⟩))
          refine lv_iinc (k := 0) (v := nI (i + 1)) (lv' := [(8, .int (nI (i + 1))), (7, .ref (ad (5 + 3 * n))), (6, .int (nI (fr j k))), (5, .int 0), (0, .ref (ad 0)), (1, .int (nI j)), (2, .int (nI k)), (3, .int (nI n)), (4, .int v)]) hx hb dX2_twin_90 hl rfl (nI_1 i) (by decide) rfl (fun ls hl => ?_)
          refine lv_goto (tgt := 50) hx hb dX2_twin_93 rfl ?_
          exact ih (i + 1) _ _ _ (by omega) hG (lv_sub hl [0, 1, 2, 3, 4, 5, 6, 7, 8] rfl)
      · refine lv_iload hx hb dX2_twin_50 (lv_at hl 0 rfl) ?_
        refine lv_bipush (v := nI 64) hx hb dX2_twin_52 (by decide) ?_
        refine lv_icmp_ge (tgt := 96) hx hb dX2_twin_54 rfl (fun hh => absurd hh (nI_ge hi6 (by decide))) (fun _ => ?_)
        refine lv_iload hx hb dX2_twin_57 (lv_at hl 0 rfl) ?_
        refine lv_iload hx hb dX2_twin_59 (lv_at hl 8 rfl) ?_
        refine lv_icmp_le (tgt := 90) hx hb dX2_twin_61 rfl (fun _ => ?_) (fun hh => absurd (Int32.not_lt.mp hv) hh)
        refine lv_iinc (k := 0) (v := nI (i + 1)) (lv' := [(8, .int (nI (i + 1))), (7, .ref (ad (5 + 3 * n))), (6, .int (nI (fr j k))), (5, .int 0), (0, .ref (ad 0)), (1, .int (nI j)), (2, .int (nI k)), (3, .int (nI n)), (4, .int v)]) hx hb dX2_twin_90 hl rfl (nI_1 i) (by decide) rfl (fun ls hl => ?_)
        refine lv_goto (tgt := 50) hx hb dX2_twin_93 rfl ?_
        exact ih (i + 1) _ _ _ (by omega) hG (lv_sub hl [0, 1, 2, 3, 4, 5, 6, 7, 8] rfl)
  exact loop 64 0 _ _ _ (by omega) hG (lv_sub hl [0, 1, 2, 3, 4, 5, 6, 7, 8] rfl)
set_option maxHeartbeats 4000000 in
set_option maxRecDepth 100000 in
theorem fp_twin_hit {j n k : Nat} {v : Int32} (hj : j < 5) (h : run j = true) (hn : n < 5) (h1 : run n = true) (hk : k < 64) (h2 : mp j k = true) (hf : fr j k < 24) (hfn : ∀ i, i < 64 → mp n i = true → fr n i < 24) {c0 : Nat} (hc6 : c0 < 64) (hc : twP mp fr n (fr j k) v c0) (hm : ∀ i, i < c0 → ¬ twP mp fr n (fr j k) v i) : gM l yX2_twin cX2_twin 9 (some .int) 2 43 D cls (fpT cI cQ cZ) A (fpW ad cI cQ run mp fr kd wd ct af cf) [.ref (ad 0), .int (nI j), .int (nI k), .int (nI n), .int v] (some (.int (nI c0))) (fpW ad cI cQ run mp fr kd wd ct af cf) := by
  refine gM_of (by decide) (Nat.le_of_ble_eq_true rfl) ?_
  intro p e s m args below meth c ls hx hb hml hown hts hN hr hlk hl hG
  have hown : s.vm.findClass RX2 = some m.cls := hown
  have hl : lv_has ls 9 [(0, .ref (ad 0)), (1, .int (nI j)), (2, .int (nI k)), (3, .int (nI n)), (4, .int v)] := hl
  refine lv_aload_n hx hb dX2_twin_0 rfl (lv_at hl 0 rfl) ?_
  refine lv_iload_n hx hb dX2_twin_1 rfl (lv_at hl 3 rfl) ?_
  refine g_callV (As := [.int (nI n)]) (rest := []) (fs := [.ref (ad 1), .ref (ad 2), .int af, .int cf]) (fm_isRunning_t hn h1) hx hb hml hown hts hN hG t_97 t_99 s_4 t_1 t_100 nm_X2_isRunning ⟨by decide, by decide⟩ fp_0 rfl hl.1 (Nat.le_of_ble_eq_true rfl) dX2_twin_2 ⟨Nat.zero_le _, Nat.zero_le _⟩ (fun H locs hG => ?_)
  refine W.eq (g2 := F0 m 5 ls [.int 1]) rfl ?_
  refine lv_if_ne (tgt := 10) hx hb dX2_twin_5 rfl (fun _ => ?_) (fun hh => absurd hh (by decide))
  refine lv_aload_n hx hb dX2_twin_10 rfl (lv_at hl 0 rfl) ?_
  refine lv_iload_n hx hb dX2_twin_11 rfl (lv_at hl 1 rfl) ?_
  refine lv_iload_n hx hb dX2_twin_12 rfl (lv_at hl 2 rfl) ?_
  refine g_callV (As := [.int (nI j), .int (nI k)]) (rest := []) (fs := [.ref (ad 1), .ref (ad 2), .int af, .int cf]) (fm_rM_0 hj h hk h2) hx hb hml hown hts hN hG t_165 t_167 s_16 t_1 t_168 nm_X2_refusalOfMapped ⟨by decide, by decide⟩ fp_0 rfl hl.1 (Nat.le_of_ble_eq_true rfl) dX2_twin_13 ⟨Nat.zero_le _, Nat.zero_le _⟩ (fun H locs hG => ?_)
  refine W.eq (g2 := F0 m 16 ls [.int 0]) rfl ?_
  refine lv_istore (lv' := [(5, .int 0), (0, .ref (ad 0)), (1, .int (nI j)), (2, .int (nI k)), (3, .int (nI n)), (4, .int v)]) hx hb dX2_twin_16 hl (by decide) rfl (fun ls hl => ?_)
  refine lv_iload hx hb dX2_twin_18 (lv_at hl 0 rfl) ?_
  refine lv_if_eq (tgt := 26) hx hb dX2_twin_20 rfl (fun _ => ?_) (fun hh => absurd (rfl) hh)
  refine lv_aload_n hx hb dX2_twin_26 rfl (lv_at hl 1 rfl) ?_
  refine g_get (k := 0) (v := .ref (ad 1)) (C := RX2) (ref := RX2) (fs := [.ref (ad 1), .ref (ad 2), .int af, .int cf]) hx hb hown hts hG gX2 rfl fp_0 (by decide) t_53 rfl rfl dX2_twin_27 ?_
  refine lv_iload_n hx hb dX2_twin_30 rfl (lv_at hl 2 rfl) ?_
  refine g_aald (i := j) (t0 := 1) hx hb hG fp_1 rfl (hj) (by decide) rfl dX2_twin_31 ?_
  refine g_getN (k := 2) (v := .ref (ad (6 + 3 * j))) (C := RX0) (ref := RX0) (fs := [.int (bI (run j)), .long (en (mp j)), .ref (ad (6 + 3 * j)), .ref (ad (7 + 3 * j))]) hx hb hown hts hN hG gX0 rfl (fp_5 (hj)) (by decide) t_25 rfl rfl dX2_twin_32 ?_
  refine lv_iload_n hx hb dX2_twin_35 rfl (lv_at hl 3 rfl) ?_
  refine g_iald (i := k) (t0 := 0) hx hb hG (fp_6 (hj)) rfl (hk) (by decide) dX2_twin_36 ?_
  refine lv_istore (lv' := [(6, .int (nI (fr j k))), (5, .int 0), (0, .ref (ad 0)), (1, .int (nI j)), (2, .int (nI k)), (3, .int (nI n)), (4, .int v)]) hx hb dX2_twin_37 hl (by decide) rfl (fun ls hl => ?_)
  refine lv_aload_n hx hb dX2_twin_39 rfl (lv_at hl 2 rfl) ?_
  refine g_get (k := 0) (v := .ref (ad 1)) (C := RX2) (ref := RX2) (fs := [.ref (ad 1), .ref (ad 2), .int af, .int cf]) hx hb hown hts hG gX2 rfl fp_0 (by decide) t_53 rfl rfl dX2_twin_40 ?_
  refine lv_iload_n hx hb dX2_twin_43 rfl (lv_at hl 5 rfl) ?_
  refine g_aald (i := n) (t0 := 1) hx hb hG fp_1 rfl (hn) (by decide) rfl dX2_twin_44 ?_
  refine lv_astore (lv' := [(7, .ref (ad (5 + 3 * n))), (6, .int (nI (fr j k))), (5, .int 0), (0, .ref (ad 0)), (1, .int (nI j)), (2, .int (nI k)), (3, .int (nI n)), (4, .int v)]) hx hb dX2_twin_45 hl (by decide) rfl (fun ls hl => ?_)
  refine lv_iconst (v := nI 0) hx hb dX2_twin_47 (by decide) ?_
  refine lv_istore (lv' := [(8, .int (nI 0)), (7, .ref (ad (5 + 3 * n))), (6, .int (nI (fr j k))), (5, .int 0), (0, .ref (ad 0)), (1, .int (nI j)), (2, .int (nI k)), (3, .int (nI n)), (4, .int v)]) hx hb dX2_twin_48 hl (by decide) rfl (fun ls hl => ?_)
  have loop : ∀ (n0 i : Nat) (H : Heap) (locs : List Loc) (ls : Array Slot), i + n0 = c0 → gG D cls (fpT cI cQ cZ) A s (fpW ad cI cQ run mp fr kd wd ct af cf) H locs → lv_has ls 9 [(8, .int (nI i)), (7, .ref (ad (5 + 3 * n))), (6, .int (nI (fr j k))), (5, .int 0), (0, .ref (ad 0)), (1, .int (nI j)), (2, .int (nI k)), (3, .int (nI n)), (4, .int v)] → W p l e (gR 2 43) s m args below meth c H locs 0 0 (gQ below args s D cls (fpT cI cQ cZ) A (some (.int (nI c0))) (fpW ad cI cQ run mp fr kd wd ct af cf)) (F0 m 50 ls []) := by
    intro n0
    induction n0 with
    | zero =>
      intro i H locs ls hi hG hl
      obtain rfl : i = c0 := by omega
      refine lv_iload hx hb dX2_twin_50 (lv_at hl 0 rfl) ?_
      refine lv_bipush (v := nI 64) hx hb dX2_twin_52 (by decide) ?_
      refine lv_icmp_ge (tgt := 96) hx hb dX2_twin_54 rfl (fun hh => absurd hh (nI_ge hc6 (by decide))) (fun _ => ?_)
      refine lv_iload hx hb dX2_twin_57 (lv_at hl 0 rfl) ?_
      refine lv_iload hx hb dX2_twin_59 (lv_at hl 8 rfl) ?_
      refine lv_icmp_le (tgt := 90) hx hb dX2_twin_61 rfl (fun hh => absurd hh (Int32.not_le.mpr hc.1)) (fun _ => ?_)
      refine lv_aload hx hb dX2_twin_64 (lv_at hl 1 rfl) ?_
      refine lv_iload hx hb dX2_twin_66 (lv_at hl 0 rfl) ?_
      refine g_callVN (As := [.int (nI i)]) (rest := []) (fs := [.int (bI (run n)), .long (en (mp n)), .ref (ad (6 + 3 * n)), .ref (ad (7 + 3 * n))]) (fm_has_t hn hc6 hc.2.1) hx hb hml hown hts hN hG t_101 t_103 s_5 t_2 t_104 nm_X0_has ⟨by decide, by decide⟩ (fp_5 (hn)) rfl hl.1 (Nat.le_of_ble_eq_true rfl) dX2_twin_68 ⟨Nat.zero_le _, Nat.zero_le _⟩ (fun H locs hG => ?_)
      refine W.eq (g2 := F0 m 71 ls [.int 1]) rfl ?_
      refine lv_if_eq (tgt := 90) hx hb dX2_twin_71 rfl (fun hh => absurd hh (by decide)) (fun _ => ?_)
      refine lv_aload hx hb dX2_twin_74 (lv_at hl 1 rfl) ?_
      refine g_getN (k := 2) (v := .ref (ad (6 + 3 * n))) (C := RX0) (ref := RX0) (fs := [.int (bI (run n)), .long (en (mp n)), .ref (ad (6 + 3 * n)), .ref (ad (7 + 3 * n))]) hx hb hown hts hN hG gX0 rfl (fp_5 (hn)) (by decide) t_25 rfl rfl dX2_twin_76 ?_
      refine lv_iload hx hb dX2_twin_79 (lv_at hl 0 rfl) ?_
      refine g_iald (i := i) (t0 := 0) hx hb hG (fp_6 (hn)) rfl (hc6) (by decide) dX2_twin_81 ?_
      refine lv_iload hx hb dX2_twin_82 (lv_at hl 2 rfl) ?_
      refine lv_icmp_ne (tgt := 90) hx hb dX2_twin_84 rfl (fun hh => absurd (by rw [hc.2.2]) hh) (fun _ => ?_)
      refine lv_iload hx hb dX2_twin_87 (lv_at hl 0 rfl) ?_
      exact g_iret hx hb hr hlk hG dX2_twin_89
    | succ n0 ih =>
      intro i H locs ls hi hG hl
      have hi6 : i < 64 := by omega
      have hno := hm i (by omega)
      by_cases hv : v < nI i
      · cases hc : mp n i
        · refine lv_iload hx hb dX2_twin_50 (lv_at hl 0 rfl) ?_
          refine lv_bipush (v := nI 64) hx hb dX2_twin_52 (by decide) ?_
          refine lv_icmp_ge (tgt := 96) hx hb dX2_twin_54 rfl (fun hh => absurd hh (nI_ge hi6 (by decide))) (fun _ => ?_)
          refine lv_iload hx hb dX2_twin_57 (lv_at hl 0 rfl) ?_
          refine lv_iload hx hb dX2_twin_59 (lv_at hl 8 rfl) ?_
          refine lv_icmp_le (tgt := 90) hx hb dX2_twin_61 rfl (fun hh => absurd hh (Int32.not_le.mpr hv)) (fun _ => ?_)
          refine lv_aload hx hb dX2_twin_64 (lv_at hl 1 rfl) ?_
          refine lv_iload hx hb dX2_twin_66 (lv_at hl 0 rfl) ?_
          refine g_callVN (As := [.int (nI i)]) (rest := []) (fs := [.int (bI (run n)), .long (en (mp n)), .ref (ad (6 + 3 * n)), .ref (ad (7 + 3 * n))]) (fm_has_f hn hi6 hc) hx hb hml hown hts hN hG t_101 t_103 s_5 t_2 t_104 nm_X0_has ⟨by decide, by decide⟩ (fp_5 (hn)) rfl hl.1 (Nat.le_of_ble_eq_true rfl) dX2_twin_68 ⟨Nat.zero_le _, Nat.zero_le _⟩ (fun H locs hG => ?_)
          refine W.eq (g2 := F0 m 71 ls [.int 0]) rfl ?_
          refine lv_if_eq (tgt := 90) hx hb dX2_twin_71 rfl (fun _ => ?_) (fun hh => absurd (rfl) hh)
          refine lv_iinc (k := 0) (v := nI (i + 1)) (lv' := [(8, .int (nI (i + 1))), (7, .ref (ad (5 + 3 * n))), (6, .int (nI (fr j k))), (5, .int 0), (0, .ref (ad 0)), (1, .int (nI j)), (2, .int (nI k)), (3, .int (nI n)), (4, .int v)]) hx hb dX2_twin_90 hl rfl (nI_1 i) (by decide) rfl (fun ls hl => ?_)
          refine lv_goto (tgt := 50) hx hb dX2_twin_93 rfl ?_
          exact ih (i + 1) _ _ _ (by omega) hG (lv_sub hl [0, 1, 2, 3, 4, 5, 6, 7, 8] rfl)
        · refine lv_iload hx hb dX2_twin_50 (lv_at hl 0 rfl) ?_
          refine lv_bipush (v := nI 64) hx hb dX2_twin_52 (by decide) ?_
          refine lv_icmp_ge (tgt := 96) hx hb dX2_twin_54 rfl (fun hh => absurd hh (nI_ge hi6 (by decide))) (fun _ => ?_)
          refine lv_iload hx hb dX2_twin_57 (lv_at hl 0 rfl) ?_
          refine lv_iload hx hb dX2_twin_59 (lv_at hl 8 rfl) ?_
          refine lv_icmp_le (tgt := 90) hx hb dX2_twin_61 rfl (fun hh => absurd hh (Int32.not_le.mpr hv)) (fun _ => ?_)
          refine lv_aload hx hb dX2_twin_64 (lv_at hl 1 rfl) ?_
          refine lv_iload hx hb dX2_twin_66 (lv_at hl 0 rfl) ?_
          refine g_callVN (As := [.int (nI i)]) (rest := []) (fs := [.int (bI (run n)), .long (en (mp n)), .ref (ad (6 + 3 * n)), .ref (ad (7 + 3 * n))]) (fm_has_t hn hi6 hc) hx hb hml hown hts hN hG t_101 t_103 s_5 t_2 t_104 nm_X0_has ⟨by decide, by decide⟩ (fp_5 (hn)) rfl hl.1 (Nat.le_of_ble_eq_true rfl) dX2_twin_68 ⟨Nat.zero_le _, Nat.zero_le _⟩ (fun H locs hG => ?_)
          refine W.eq (g2 := F0 m 71 ls [.int 1]) rfl ?_
          refine lv_if_eq (tgt := 90) hx hb dX2_twin_71 rfl (fun hh => absurd hh (by decide)) (fun _ => ?_)
          refine lv_aload hx hb dX2_twin_74 (lv_at hl 1 rfl) ?_
          refine g_getN (k := 2) (v := .ref (ad (6 + 3 * n))) (C := RX0) (ref := RX0) (fs := [.int (bI (run n)), .long (en (mp n)), .ref (ad (6 + 3 * n)), .ref (ad (7 + 3 * n))]) hx hb hown hts hN hG gX0 rfl (fp_5 (hn)) (by decide) t_25 rfl rfl dX2_twin_76 ?_
          refine lv_iload hx hb dX2_twin_79 (lv_at hl 0 rfl) ?_
          refine g_iald (i := i) (t0 := 0) hx hb hG (fp_6 (hn)) rfl (hi6) (by decide) dX2_twin_81 ?_
          refine lv_iload hx hb dX2_twin_82 (lv_at hl 2 rfl) ?_
          refine lv_icmp_ne (tgt := 90) hx hb dX2_twin_84 rfl (fun _ => ?_) (fun hh => absurd hh (fun q => hno ⟨hv, hc, (nI_eq (Nat.lt_trans (hfn i hi6 hc) (by decide)) (Nat.lt_trans hf (by decide))).mp q⟩))
          refine lv_iinc (k := 0) (v := nI (i + 1)) (lv' := [(8, .int (nI (i + 1))), (7, .ref (ad (5 + 3 * n))), (6, .int (nI (fr j k))), (5, .int 0), (0, .ref (ad 0)), (1, .int (nI j)), (2, .int (nI k)), (3, .int (nI n)), (4, .int v)]) hx hb dX2_twin_90 hl rfl (nI_1 i) (by decide) rfl (fun ls hl => ?_)
          refine lv_goto (tgt := 50) hx hb dX2_twin_93 rfl ?_
          exact ih (i + 1) _ _ _ (by omega) hG (lv_sub hl [0, 1, 2, 3, 4, 5, 6, 7, 8] rfl)
      · refine lv_iload hx hb dX2_twin_50 (lv_at hl 0 rfl) ?_
        refine lv_bipush (v := nI 64) hx hb dX2_twin_52 (by decide) ?_
        refine lv_icmp_ge (tgt := 96) hx hb dX2_twin_54 rfl (fun hh => absurd hh (nI_ge hi6 (by decide))) (fun _ => ?_)
        refine lv_iload hx hb dX2_twin_57 (lv_at hl 0 rfl) ?_
        refine lv_iload hx hb dX2_twin_59 (lv_at hl 8 rfl) ?_
        refine lv_icmp_le (tgt := 90) hx hb dX2_twin_61 rfl (fun _ => ?_) (fun hh => absurd (Int32.not_lt.mp hv) hh)
        refine lv_iinc (k := 0) (v := nI (i + 1)) (lv' := [(8, .int (nI (i + 1))), (7, .ref (ad (5 + 3 * n))), (6, .int (nI (fr j k))), (5, .int 0), (0, .ref (ad 0)), (1, .int (nI j)), (2, .int (nI k)), (3, .int (nI n)), (4, .int v)]) hx hb dX2_twin_90 hl rfl (nI_1 i) (by decide) rfl (fun ls hl => ?_)
        refine lv_goto (tgt := 50) hx hb dX2_twin_93 rfl ?_
        exact ih (i + 1) _ _ _ (by omega) hG (lv_sub hl [0, 1, 2, 3, 4, 5, 6, 7, 8] rfl)
  exact loop c0 0 _ _ _ (by omega) hG (lv_sub hl [0, 1, 2, 3, 4, 5, 6, 7, 8] rfl)
end CM
end
section
/-! the world of one reference object -/
def rfW (bd : Nat → Nat) (cI cZ : ClassId) (run : Nat → Bool) (fm : Nat → Nat) (cm wr mk : Nat → Bool) (wo : Nat → Int32) (fc cc : Int32) : va_W :=
  [(bd 0, .inr (3, [.ref (bd 1), .ref (bd 2), .ref (bd 3), .ref (bd 4), .ref (bd 5), .ref (bd 6), .int fc, .int cc])),
   (bd 1, .inl (cZ, 5, .inl (fun i => bI (run i)))),
   (bd 2, .inl (cI, 320, .inl (fun i => nI (fm i)))),
   (bd 3, .inl (cZ, 320, .inl (fun i => bI (cm i)))),
   (bd 4, .inl (cZ, 320, .inl (fun i => bI (wr i)))),
   (bd 5, .inl (cZ, 320, .inl (fun i => bI (mk i)))),
   (bd 6, .inl (cI, 96, .inl wo))]
theorem upd_bI (g : Nat → Bool) (k : Nat) (v : Bool) : upd (fun i => bI (g i)) k (bI v) = fun i => bI (up1 g k v i) := by
  funext i
  by_cases h : i = k <;> simp [upd, up1, h]
theorem nar_bI (b : Bool) : vp_nar .boolean (bI b) = bI b := by cases b <;> decide
section RW
variable {bd : Nat → Nat} {cI cZ : ClassId} {run : Nat → Bool} {fm : Nat → Nat} {cm wr mk : Nat → Bool} {wo : Nat → Int32} {fc cc : Int32}
theorem rf_0 : (rfW bd cI cZ run fm cm wr mk wo fc cc)[0]? = some (bd 0, .inr (3, [.ref (bd 1), .ref (bd 2), .ref (bd 3), .ref (bd 4), .ref (bd 5), .ref (bd 6), .int fc, .int cc])) := rfl
theorem rf_1 : (rfW bd cI cZ run fm cm wr mk wo fc cc)[1]? = some (bd 1, .inl (cZ, 5, .inl (fun i => bI (run i)))) := rfl
theorem rf_2 : (rfW bd cI cZ run fm cm wr mk wo fc cc)[2]? = some (bd 2, .inl (cI, 320, .inl (fun i => nI (fm i)))) := rfl
theorem rf_3 : (rfW bd cI cZ run fm cm wr mk wo fc cc)[3]? = some (bd 3, .inl (cZ, 320, .inl (fun i => bI (cm i)))) := rfl
theorem rf_4 : (rfW bd cI cZ run fm cm wr mk wo fc cc)[4]? = some (bd 4, .inl (cZ, 320, .inl (fun i => bI (wr i)))) := rfl
theorem rf_5 : (rfW bd cI cZ run fm cm wr mk wo fc cc)[5]? = some (bd 5, .inl (cZ, 320, .inl (fun i => bI (mk i)))) := rfl
theorem rf_6 : (rfW bd cI cZ run fm cm wr mk wo fc cc)[6]? = some (bd 6, .inl (cI, 96, .inl wo)) := rfl
theorem rf_s0f (v : Int32) : (rfW bd cI cZ run fm cm wr mk wo fc cc).set 0 (bd 0, .inr (3, [.ref (bd 1), .ref (bd 2), .ref (bd 3), .ref (bd 4), .ref (bd 5), .ref (bd 6), .int v, .int cc])) = rfW bd cI cZ run fm cm wr mk wo v cc := rfl
theorem rf_s0c (v : Int32) : (rfW bd cI cZ run fm cm wr mk wo fc cc).set 0 (bd 0, .inr (3, [.ref (bd 1), .ref (bd 2), .ref (bd 3), .ref (bd 4), .ref (bd 5), .ref (bd 6), .int fc, .int v])) = rfW bd cI cZ run fm cm wr mk wo fc v := rfl
theorem rf_s1 (k : Nat) (v : Bool) : (rfW bd cI cZ run fm cm wr mk wo fc cc).set 1 (bd 1, .inl (cZ, 5, .inl (upd (fun i => bI (run i)) k (bI v)))) = rfW bd cI cZ (up1 run k v) fm cm wr mk wo fc cc := by rw [upd_bI]; rfl
theorem rf_s2 (k v : Nat) : (rfW bd cI cZ run fm cm wr mk wo fc cc).set 2 (bd 2, .inl (cI, 320, .inl (upd (fun i => nI (fm i)) k (nI v)))) = rfW bd cI cZ run (up1 fm k v) cm wr mk wo fc cc := by rw [upd_nI]; rfl
theorem rf_s3 (k : Nat) (v : Bool) : (rfW bd cI cZ run fm cm wr mk wo fc cc).set 3 (bd 3, .inl (cZ, 320, .inl (upd (fun i => bI (cm i)) k (bI v)))) = rfW bd cI cZ run fm (up1 cm k v) wr mk wo fc cc := by rw [upd_bI]; rfl
theorem rf_s4 (k : Nat) (v : Bool) : (rfW bd cI cZ run fm cm wr mk wo fc cc).set 4 (bd 4, .inl (cZ, 320, .inl (upd (fun i => bI (wr i)) k (bI v)))) = rfW bd cI cZ run fm cm (up1 wr k v) mk wo fc cc := by rw [upd_bI]; rfl
theorem rf_s5 (k : Nat) (v : Bool) : (rfW bd cI cZ run fm cm wr mk wo fc cc).set 5 (bd 5, .inl (cZ, 320, .inl (upd (fun i => bI (mk i)) k (bI v)))) = rfW bd cI cZ run fm cm wr (up1 mk k v) wo fc cc := by rw [upd_bI]; rfl
theorem rf_s6 (g : Nat → Int32) : (rfW bd cI cZ run fm cm wr mk wo fc cc).set 6 (bd 6, .inl (cI, 96, .inl g)) = rfW bd cI cZ run fm cm wr mk g fc cc := rfl
end RW
section GZ
variable {p : Program} {l : Launch} {e : Env} {R : Room} {s : State} {m : MethodId} {args : Array Value} {below : List Frame} {meth : Method} {c : Code} {H : Heap} {locs : List Loc} {cells slots : Nat} {Q : State → Prop}
variable {cc : ByteArray} {pc : Nat} {ls : Array Slot} {rest : List Value} {D : va_G} {cl : List vw_C} {A : Nat → Prop} {tys : List (ClassId × FieldType)} {ws ws' : va_W} {q0 b : Nat}
theorem g_zast {t0 n i : Nat} {cA : ClassId} {f : Nat → Int32} {x : Int32} (hx : p.tables.exec = Jvm.exec) (hb : c.code = cc) (hG : gG D cl tys A s ws H locs) (ha : ws[q0]? = some (b, .inl (cA, n, .inl f))) (ht : tys[t0]? = some (cA, .boolean)) (hi : i < n) (hn : n < 2 ^ 31) (hnar : vp_nar .boolean x = x) (hw : ws.set q0 (b, .inl (cA, n, .inl (upd f i x))) = ws') (hdg : decode cc pc = .ok (.bastore, 1))
    (kk : ∀ (H1 : Heap) (locs1 : List Loc), gG D cl tys A s ws' H1 locs1 → W p l e R s m args below meth c H1 locs1 cells slots Q (F0 m (pc + 1) ls rest)) : W p l e R s m args below meth c H locs cells slots Q (F0 m pc ls (.int x :: .int (nI i) :: .ref b :: rest)) := by
  obtain ⟨hK, hP, hD, hS⟩ := hG
  refine va_zast hx hb hK hP hD hS q0 t0 ha ht (vp_in_nI hi hn) hdg (fun H1 locs1 a1 a2 a3 => ?_)
  rw [nI_clamp (Nat.lt_trans hi hn), hnar, hw] at a1 a2
  exact kk H1 locs1 ⟨hK, a1, a2, a3⟩
end GZ
theorem i45 {x : Int32} (h : nI 5 ≤ x) : nI 4 < x := by
  rw [Int32.lt_iff_toInt_lt]
  rw [Int32.le_iff_toInt_le] at h
  have h5 : (nI 5).toInt = 5 := by decide
  have h4 : (nI 4).toInt = 4 := by decide
  omega
theorem i63 {x : Int32} (h : nI 64 ≤ x) : nI 63 < x := by
  rw [Int32.lt_iff_toInt_lt]
  rw [Int32.le_iff_toInt_le] at h
  have h5 : (nI 64).toInt = 64 := by decide
  have h4 : (nI 63).toInt = 63 := by decide
  omega
theorem i255 {x : Int32} (h : nI 256 ≤ x) : nI 255 < x := by
  rw [Int32.lt_iff_toInt_lt]
  rw [Int32.le_iff_toInt_le] at h
  have h5 : (nI 256).toInt = 256 := by decide
  have h4 : (nI 255).toInt = 255 := by decide
  omega
/-- the pages of a process of the reference, the mappings of a frame, the frames in use -/
def pgS (fm : Nat → Nat) (j k : Nat) : Bool := decide (0 < fm (64 * j + k))
def ldN (fm : Nat → Nat) (f : Nat) : Nat := pcN (fun k => fm k == f + 1) 320
def usR (fm : Nat → Nat) (n : Nat) : Nat := pcN (fun f => decide (0 < ldN fm f)) n
def frR (run : Nat → Bool) (fm : Nat → Nat) : Int32 := frL run (pgS fm) (nI (24 - usR fm 24)) 5
def mrN (b : Nat → Bool) (k : Nat) : Nat := (if anB b (k / 4 * 4) 4 then 0 else 1) + (if anB b (k / 16 * 16) 16 then 0 else 1)
theorem usR_le (fm : Nat → Nat) : ∀ n, usR fm n ≤ n
  | 0 => Nat.le_refl _
  | n + 1 => by
    have := usR_le fm n
    show pcN _ (n + 1) ≤ n + 1
    simp only [pcN]
    unfold usR at this
    split <;> omega
theorem pcN_320 (p : Nat → Bool) : ∀ n, pcN p n ≤ n
  | 0 => Nat.le_refl _
  | n + 1 => by
    have := pcN_320 p n
    simp only [pcN]
    split <;> omega
theorem ldN_le (fm : Nat → Nat) (f : Nat) : ldN fm f ≤ 320 := pcN_320 _ 320
theorem nI_gt0 {n : Nat} (h : 0 < n) (hn : n < 2 ^ 31) : ¬ nI n ≤ 0 := nI_nle h hn
theorem nI_le0 {n : Nat} (h : n = 0) : nI n ≤ 0 := by subst h; decide
end
section
section CM
variable {l : Launch} {D : va_G} {A : Nat → Prop} {bd : Nat → Nat} {cI cQ cZ : ClassId} {run : Nat → Bool} {fm : Nat → Nat} {cm wr mk : Nat → Bool} {wo : Nat → Int32} {fc cc : Int32}
set_option maxHeartbeats 4000000 in
set_option maxRecDepth 100000 in
theorem rm_away_t {j : Nat} (hj : j < 5) (h : run j = true) : gM l yX3_away cX3_away 2 (some .boolean) 0 0 D cls (fpT cI cQ cZ) A (rfW bd cI cZ run fm cm wr mk wo fc cc) [.ref (bd 0), .int (nI j)] (some (.int 0)) (rfW bd cI cZ run fm cm wr mk wo fc cc) := by
  refine gM_of (by decide) (Nat.le_of_ble_eq_true rfl) ?_
  intro p e s m args below meth c ls hx hb hml hown hts hN hr hlk hl hG
  have hown : s.vm.findClass RX3 = some m.cls := hown
  have hl : lv_has ls 2 [(0, .ref (bd 0)), (1, .int (nI j))] := hl
  refine lv_iload_n hx hb dX3_away_0 rfl (lv_at hl 1 rfl) ?_
  refine lv_if_lt (tgt := 18) hx hb dX3_away_1 rfl (fun hh => absurd hh (nI_pos (Nat.lt_trans hj (by decide)))) (fun _ => ?_)
  refine lv_iload_n hx hb dX3_away_4 rfl (lv_at hl 1 rfl) ?_
  refine lv_iconst (v := nI 4) hx hb dX3_away_5 (by decide) ?_
  refine lv_icmp_gt (tgt := 18) hx hb dX3_away_6 rfl (fun hh => absurd hh (nI_nlt (by omega) (by decide))) (fun _ => ?_)
  refine lv_aload_n hx hb dX3_away_9 rfl (lv_at hl 0 rfl) ?_
  refine g_get (k := 0) (v := .ref (bd 1)) (C := RX3) (ref := RX3) (fs := [.ref (bd 1), .ref (bd 2), .ref (bd 3), .ref (bd 4), .ref (bd 5), .ref (bd 6), .int fc, .int cc]) hx hb hown hts hG gX3 rfl rf_0 (by decide) t_238 rfl rfl dX3_away_10 ?_
  refine lv_iload_n hx hb dX3_away_13 rfl (lv_at hl 1 rfl) ?_
  refine g_zald (i := j) (t0 := 2) hx hb hG rf_1 rfl (hj) (by decide) dX3_away_14 ?_
  refine g_top (y := 1) (by rw [h]; rfl) ?_
  refine lv_if_ne (tgt := 22) hx hb dX3_away_15 rfl (fun _ => ?_) (fun hh => absurd hh (by decide))
  refine lv_iconst (v := 0) hx hb dX3_away_22 (by decide) ?_
  exact g_zret hx hb hr (rfl) hlk hG dX3_away_23
set_option maxHeartbeats 4000000 in
set_option maxRecDepth 100000 in
theorem rm_away_f {j : Nat} (hj : j < 5) (h : run j = false) : gM l yX3_away cX3_away 2 (some .boolean) 0 0 D cls (fpT cI cQ cZ) A (rfW bd cI cZ run fm cm wr mk wo fc cc) [.ref (bd 0), .int (nI j)] (some (.int 1)) (rfW bd cI cZ run fm cm wr mk wo fc cc) := by
  refine gM_of (by decide) (Nat.le_of_ble_eq_true rfl) ?_
  intro p e s m args below meth c ls hx hb hml hown hts hN hr hlk hl hG
  have hown : s.vm.findClass RX3 = some m.cls := hown
  have hl : lv_has ls 2 [(0, .ref (bd 0)), (1, .int (nI j))] := hl
  refine lv_iload_n hx hb dX3_away_0 rfl (lv_at hl 1 rfl) ?_
  refine lv_if_lt (tgt := 18) hx hb dX3_away_1 rfl (fun hh => absurd hh (nI_pos (Nat.lt_trans hj (by decide)))) (fun _ => ?_)
  refine lv_iload_n hx hb dX3_away_4 rfl (lv_at hl 1 rfl) ?_
  refine lv_iconst (v := nI 4) hx hb dX3_away_5 (by decide) ?_
  refine lv_icmp_gt (tgt := 18) hx hb dX3_away_6 rfl (fun hh => absurd hh (nI_nlt (by omega) (by decide))) (fun _ => ?_)
  refine lv_aload_n hx hb dX3_away_9 rfl (lv_at hl 0 rfl) ?_
  refine g_get (k := 0) (v := .ref (bd 1)) (C := RX3) (ref := RX3) (fs := [.ref (bd 1), .ref (bd 2), .ref (bd 3), .ref (bd 4), .ref (bd 5), .ref (bd 6), .int fc, .int cc]) hx hb hown hts hG gX3 rfl rf_0 (by decide) t_238 rfl rfl dX3_away_10 ?_
  refine lv_iload_n hx hb dX3_away_13 rfl (lv_at hl 1 rfl) ?_
  refine g_zald (i := j) (t0 := 2) hx hb hG rf_1 rfl (hj) (by decide) dX3_away_14 ?_
  refine g_top (y := 0) (by rw [h]; rfl) ?_
  refine lv_if_ne (tgt := 22) hx hb dX3_away_15 rfl (fun hh => absurd (rfl) hh) (fun _ => ?_)
  refine lv_iconst (v := 1) hx hb dX3_away_18 (by decide) ?_
  refine lv_goto (tgt := 23) hx hb dX3_away_19 rfl ?_
  exact g_zret hx hb hr (rfl) hlk hG dX3_away_23
set_option maxHeartbeats 4000000 in
set_option maxRecDepth 100000 in
theorem rm_away_neg {x : Int32} (h : x < 0) : gM l yX3_away cX3_away 2 (some .boolean) 0 0 D cls (fpT cI cQ cZ) A (rfW bd cI cZ run fm cm wr mk wo fc cc) [.ref (bd 0), .int x] (some (.int 1)) (rfW bd cI cZ run fm cm wr mk wo fc cc) := by
  refine gM_of (by decide) (Nat.le_of_ble_eq_true rfl) ?_
  intro p e s m args below meth c ls hx hb hml hown hts hN hr hlk hl hG
  have hown : s.vm.findClass RX3 = some m.cls := hown
  have hl : lv_has ls 2 [(0, .ref (bd 0)), (1, .int x)] := hl
  refine lv_iload_n hx hb dX3_away_0 rfl (lv_at hl 1 rfl) ?_
  refine lv_if_lt (tgt := 18) hx hb dX3_away_1 rfl (fun _ => ?_) (fun hh => absurd (h) hh)
  refine lv_iconst (v := 1) hx hb dX3_away_18 (by decide) ?_
  refine lv_goto (tgt := 23) hx hb dX3_away_19 rfl ?_
  exact g_zret hx hb hr (rfl) hlk hG dX3_away_23
set_option maxHeartbeats 4000000 in
set_option maxRecDepth 100000 in
theorem rm_away_big {x : Int32} (h0 : ¬ x < 0) (h : nI 5 ≤ x) : gM l yX3_away cX3_away 2 (some .boolean) 0 0 D cls (fpT cI cQ cZ) A (rfW bd cI cZ run fm cm wr mk wo fc cc) [.ref (bd 0), .int x] (some (.int 1)) (rfW bd cI cZ run fm cm wr mk wo fc cc) := by
  refine gM_of (by decide) (Nat.le_of_ble_eq_true rfl) ?_
  intro p e s m args below meth c ls hx hb hml hown hts hN hr hlk hl hG
  have hown : s.vm.findClass RX3 = some m.cls := hown
  have hl : lv_has ls 2 [(0, .ref (bd 0)), (1, .int x)] := hl
  refine lv_iload_n hx hb dX3_away_0 rfl (lv_at hl 1 rfl) ?_
  refine lv_if_lt (tgt := 18) hx hb dX3_away_1 rfl (fun hh => absurd hh (h0)) (fun _ => ?_)
  refine lv_iload_n hx hb dX3_away_4 rfl (lv_at hl 1 rfl) ?_
  refine lv_iconst (v := nI 4) hx hb dX3_away_5 (by decide) ?_
  refine lv_icmp_gt (tgt := 18) hx hb dX3_away_6 rfl (fun _ => ?_) (fun hh => absurd (i45 h) hh)
  refine lv_iconst (v := 1) hx hb dX3_away_18 (by decide) ?_
  refine lv_goto (tgt := 23) hx hb dX3_away_19 rfl ?_
  exact g_zret hx hb hr (rfl) hlk hG dX3_away_23
set_option maxHeartbeats 4000000 in
set_option maxRecDepth 100000 in
theorem rm_away_n {x : Int32} (h : ¬ rn run x) : gM l yX3_away cX3_away 2 (some .boolean) 0 0 D cls (fpT cI cQ cZ) A (rfW bd cI cZ run fm cm wr mk wo fc cc) [.ref (bd 0), .int x] (some (.int 1)) (rfW bd cI cZ run fm cm wr mk wo fc cc) := by
  by_cases h0 : x < 0
  · exact rm_away_neg h0
  rcases pk_ix x (n := 5) (by decide) with h1 | h1 | ⟨j, hj, rfl⟩
  · exact absurd h1 h0
  · exact rm_away_big h0 h1
  cases hr : run j
  · exact rm_away_f hj hr
  · exact absurd ⟨j, hj, rfl, hr⟩ h
set_option maxHeartbeats 4000000 in
set_option maxRecDepth 100000 in
theorem rm_isPage_t {k : Nat} (hk : k < 64) {ws : va_W} : gM l yX3_isPage cX3_isPage 1 (some .boolean) 0 0 D cls (fpT cI cQ cZ) A (ws) [.int (nI k)] (some (.int 1)) (ws) := by
  refine gM_of (by decide) (Nat.le_of_ble_eq_true rfl) ?_
  intro p e s m args below meth c ls hx hb hml hown hts hN hr hlk hl hG
  have hown : s.vm.findClass RX3 = some m.cls := hown
  have hl : lv_has ls 1 [(0, .int (nI k))] := hl
  refine lv_iload_n hx hb dX3_isPage_0 rfl (lv_at hl 0 rfl) ?_
  refine lv_if_lt (tgt := 14) hx hb dX3_isPage_1 rfl (fun hh => absurd hh (nI_pos (Nat.lt_trans hk (by decide)))) (fun _ => ?_)
  refine lv_iload_n hx hb dX3_isPage_4 rfl (lv_at hl 0 rfl) ?_
  refine lv_bipush (v := nI 63) hx hb dX3_isPage_5 (by decide) ?_
  refine lv_icmp_gt (tgt := 14) hx hb dX3_isPage_7 rfl (fun hh => absurd hh (nI_nlt (by omega) (by decide))) (fun _ => ?_)
  refine lv_iconst (v := 1) hx hb dX3_isPage_10 (by decide) ?_
  refine lv_goto (tgt := 15) hx hb dX3_isPage_11 rfl ?_
  exact g_zret hx hb hr (rfl) hlk hG dX3_isPage_15
set_option maxHeartbeats 4000000 in
set_option maxRecDepth 100000 in
theorem rm_isPage_neg {x : Int32} (h : x < 0) {ws : va_W} : gM l yX3_isPage cX3_isPage 1 (some .boolean) 0 0 D cls (fpT cI cQ cZ) A (ws) [.int x] (some (.int 0)) (ws) := by
  refine gM_of (by decide) (Nat.le_of_ble_eq_true rfl) ?_
  intro p e s m args below meth c ls hx hb hml hown hts hN hr hlk hl hG
  have hown : s.vm.findClass RX3 = some m.cls := hown
  have hl : lv_has ls 1 [(0, .int x)] := hl
  refine lv_iload_n hx hb dX3_isPage_0 rfl (lv_at hl 0 rfl) ?_
  refine lv_if_lt (tgt := 14) hx hb dX3_isPage_1 rfl (fun _ => ?_) (fun hh => absurd (h) hh)
  refine lv_iconst (v := 0) hx hb dX3_isPage_14 (by decide) ?_
  exact g_zret hx hb hr (rfl) hlk hG dX3_isPage_15
set_option maxHeartbeats 4000000 in
set_option maxRecDepth 100000 in
theorem rm_isPage_big {x : Int32} (h0 : ¬ x < 0) (h : nI 64 ≤ x) {ws : va_W} : gM l yX3_isPage cX3_isPage 1 (some .boolean) 0 0 D cls (fpT cI cQ cZ) A (ws) [.int x] (some (.int 0)) (ws) := by
  refine gM_of (by decide) (Nat.le_of_ble_eq_true rfl) ?_
  intro p e s m args below meth c ls hx hb hml hown hts hN hr hlk hl hG
  have hown : s.vm.findClass RX3 = some m.cls := hown
  have hl : lv_has ls 1 [(0, .int x)] := hl
  refine lv_iload_n hx hb dX3_isPage_0 rfl (lv_at hl 0 rfl) ?_
  refine lv_if_lt (tgt := 14) hx hb dX3_isPage_1 rfl (fun hh => absurd hh (h0)) (fun _ => ?_)
  refine lv_iload_n hx hb dX3_isPage_4 rfl (lv_at hl 0 rfl) ?_
  refine lv_bipush (v := nI 63) hx hb dX3_isPage_5 (by decide) ?_
  refine lv_icmp_gt (tgt := 14) hx hb dX3_isPage_7 rfl (fun _ => ?_) (fun hh => absurd (i63 h) hh)
  refine lv_iconst (v := 0) hx hb dX3_isPage_14 (by decide) ?_
  exact g_zret hx hb hr (rfl) hlk hG dX3_isPage_15
set_option maxHeartbeats 4000000 in
set_option maxRecDepth 100000 in
theorem rm_isPage_n {x : Int32} (h : ¬ pgI x) {ws : va_W} : gM l yX3_isPage cX3_isPage 1 (some .boolean) 0 0 D cls (fpT cI cQ cZ) A (ws) [.int x] (some (.int 0)) (ws) := by
  by_cases h0 : x < 0
  · exact rm_isPage_neg h0
  rcases pk_ix x (n := 64) (by decide) with h1 | h1 | ⟨k, hk, rfl⟩
  · exact absurd h1 h0
  · exact rm_isPage_big h0 h1
  · exact absurd ⟨k, hk, rfl⟩ h
set_option maxHeartbeats 4000000 in
set_option maxRecDepth 100000 in
theorem rm_some {j a w : Nat} (hj : j < 5) (haw : a + w ≤ 64) (hB : ∀ i, fm i ≤ 24)  : gM l yX3_some cX3_some 6 (some .boolean) 0 0 D cls (fpT cI cQ cZ) A (rfW bd cI cZ run fm cm wr mk wo fc cc) [.ref (bd 0), .int (nI j), .int (nI a), .int (nI w)] (some (.int (bI (anB (pgS fm j) a w)))) (rfW bd cI cZ run fm cm wr mk wo fc cc) := by
  refine gM_of (by decide) (Nat.le_of_ble_eq_true rfl) ?_
  intro p e s m args below meth c ls hx hb hml hown hts hN hr hlk hl hG
  have hown : s.vm.findClass RX3 = some m.cls := hown
  have hl : lv_has ls 6 [(0, .ref (bd 0)), (1, .int (nI j)), (2, .int (nI a)), (3, .int (nI w))] := hl
  refine lv_iconst (v := bI false) hx hb dX3_some_0 (by decide) ?_
  refine lv_istore (lv' := [(4, .int (bI false)), (0, .ref (bd 0)), (1, .int (nI j)), (2, .int (nI a)), (3, .int (nI w))]) hx hb dX3_some_1 hl (by decide) rfl (fun ls hl => ?_)
  refine lv_iconst (v := nI 0) hx hb dX3_some_3 (by decide) ?_
  refine lv_istore (lv' := [(5, .int (nI 0)), (4, .int (bI false)), (0, .ref (bd 0)), (1, .int (nI j)), (2, .int (nI a)), (3, .int (nI w))]) hx hb dX3_some_4 hl (by decide) rfl (fun ls hl => ?_)
  have loop : ∀ (n i : Nat) (ls : Array Slot), i + n = w → lv_has ls 6 [(5, .int (nI i)), (4, .int (bI (anB (pgS fm j) a i))), (0, .ref (bd 0)), (1, .int (nI j)), (2, .int (nI a)), (3, .int (nI w))] → W p l e (gR 0 0) s m args below meth c s.heap [] 0 0 (gQ below args s D cls (fpT cI cQ cZ) A (some (.int (bI (anB (pgS fm j) a w)))) (rfW bd cI cZ run fm cm wr mk wo fc cc)) (F0 m 6 ls []) := by
    intro n
    induction n with
    | zero =>
      intro i ls hi hl
      obtain rfl : i = w := by omega
      refine lv_iload hx hb dX3_some_6 (lv_at hl 0 rfl) ?_
      refine lv_iload_n hx hb dX3_some_8 rfl (lv_at hl 5 rfl) ?_
      refine lv_icmp_ge (tgt := 47) hx hb dX3_some_9 rfl (fun _ => ?_) (fun hh => absurd (nI_le (Nat.le_refl i) (by omega)) hh)
      refine lv_iload hx hb dX3_some_47 (lv_at hl 1 rfl) ?_
      exact g_zret hx hb hr (by cases anB (pgS fm j) a i <;> rfl) hlk hG dX3_some_49
    | succ n ih =>
      intro i ls hi hl
      have hi2 : i < w := by omega
      cases hc : anB (pgS fm j) a i
      · by_cases hp : 0 < fm (64 * j + (a + i))
        · have hu : anB (pgS fm j) a (i + 1) = true := by simp [anB, hc, pgS, hp]
          refine lv_iload hx hb dX3_some_6 (lv_at hl 0 rfl) ?_
          refine lv_iload_n hx hb dX3_some_8 rfl (lv_at hl 5 rfl) ?_
          refine lv_icmp_ge (tgt := 47) hx hb dX3_some_9 rfl (fun hh => absurd hh (nI_ge hi2 (by omega))) (fun _ => ?_)
          refine lv_iload hx hb dX3_some_12 (lv_at hl 1 rfl) ?_
          refine g_top (y := 0) (by rw [hc]; rfl) ?_
          refine lv_if_ne (tgt := 34) hx hb dX3_some_14 rfl (fun hh => absurd (rfl) hh) (fun _ => ?_)
          refine lv_aload_n hx hb dX3_some_17 rfl (lv_at hl 2 rfl) ?_
          refine g_get (k := 1) (v := .ref (bd 2)) (C := RX3) (ref := RX3) (fs := [.ref (bd 1), .ref (bd 2), .ref (bd 3), .ref (bd 4), .ref (bd 5), .ref (bd 6), .int fc, .int cc]) hx hb hown hts hG gX3 rfl rf_0 (by decide) t_239 rfl rfl dX3_some_18 ?_
          refine lv_bipush (v := nI 64) hx hb dX3_some_21 (by decide) ?_
          refine lv_iload_n hx hb dX3_some_23 rfl (lv_at hl 3 rfl) ?_
          refine lv_imul hx hb dX3_some_24 ?_
          refine g_top (y := nI (64 * j)) (pk_mul 64 j) ?_
          refine lv_iload_n hx hb dX3_some_25 rfl (lv_at hl 4 rfl) ?_
          refine lv_iadd hx hb dX3_some_26 ?_
          refine g_top (y := nI (64 * j + a)) (nI_add _ _) ?_
          refine lv_iload hx hb dX3_some_27 (lv_at hl 0 rfl) ?_
          refine lv_iadd hx hb dX3_some_29 ?_
          refine g_top (y := nI (64 * j + (a + i))) (by rw [nI_add, Nat.add_assoc]) ?_
          refine g_iald (i := (64 * j + (a + i))) (t0 := 0) hx hb hG rf_2 rfl ((by omega)) (by decide) dX3_some_30 ?_
          refine lv_if_le (tgt := 38) hx hb dX3_some_31 rfl (fun hh => absurd hh (nI_gt0 hp (by have := hB (64 * j + (a + i)); omega))) (fun _ => ?_)
          refine lv_iconst (v := bI true) hx hb dX3_some_34 (by decide) ?_
          refine lv_goto (tgt := 39) hx hb dX3_some_35 rfl ?_
          refine lv_istore (lv' := [(4, .int (bI true)), (5, .int (nI i)), (0, .ref (bd 0)), (1, .int (nI j)), (2, .int (nI a)), (3, .int (nI w))]) hx hb dX3_some_39 hl (by decide) rfl (fun ls hl => ?_)
          refine lv_iinc (k := 1) (v := nI (i + 1)) (lv' := [(5, .int (nI (i + 1))), (4, .int (bI true)), (0, .ref (bd 0)), (1, .int (nI j)), (2, .int (nI a)), (3, .int (nI w))]) hx hb dX3_some_41 hl rfl (nI_1 i) (by decide) rfl (fun ls hl => ?_)
          refine lv_goto (tgt := 6) hx hb dX3_some_44 rfl ?_
          exact ih (i + 1) _ (by omega) (by rw [hu]; exact lv_sub hl [0, 1, 2, 3, 4, 5] rfl)
        · have hu : anB (pgS fm j) a (i + 1) = false := by simp [anB, hc, pgS, hp]
          refine lv_iload hx hb dX3_some_6 (lv_at hl 0 rfl) ?_
          refine lv_iload_n hx hb dX3_some_8 rfl (lv_at hl 5 rfl) ?_
          refine lv_icmp_ge (tgt := 47) hx hb dX3_some_9 rfl (fun hh => absurd hh (nI_ge hi2 (by omega))) (fun _ => ?_)
          refine lv_iload hx hb dX3_some_12 (lv_at hl 1 rfl) ?_
          refine g_top (y := 0) (by rw [hc]; rfl) ?_
          refine lv_if_ne (tgt := 34) hx hb dX3_some_14 rfl (fun hh => absurd (rfl) hh) (fun _ => ?_)
          refine lv_aload_n hx hb dX3_some_17 rfl (lv_at hl 2 rfl) ?_
          refine g_get (k := 1) (v := .ref (bd 2)) (C := RX3) (ref := RX3) (fs := [.ref (bd 1), .ref (bd 2), .ref (bd 3), .ref (bd 4), .ref (bd 5), .ref (bd 6), .int fc, .int cc]) hx hb hown hts hG gX3 rfl rf_0 (by decide) t_239 rfl rfl dX3_some_18 ?_
          refine lv_bipush (v := nI 64) hx hb dX3_some_21 (by decide) ?_
          refine lv_iload_n hx hb dX3_some_23 rfl (lv_at hl 3 rfl) ?_
          refine lv_imul hx hb dX3_some_24 ?_
          refine g_top (y := nI (64 * j)) (pk_mul 64 j) ?_
          refine lv_iload_n hx hb dX3_some_25 rfl (lv_at hl 4 rfl) ?_
          refine lv_iadd hx hb dX3_some_26 ?_
          refine g_top (y := nI (64 * j + a)) (nI_add _ _) ?_
          refine lv_iload hx hb dX3_some_27 (lv_at hl 0 rfl) ?_
          refine lv_iadd hx hb dX3_some_29 ?_
          refine g_top (y := nI (64 * j + (a + i))) (by rw [nI_add, Nat.add_assoc]) ?_
          refine g_iald (i := (64 * j + (a + i))) (t0 := 0) hx hb hG rf_2 rfl ((by omega)) (by decide) dX3_some_30 ?_
          refine lv_if_le (tgt := 38) hx hb dX3_some_31 rfl (fun _ => ?_) (fun hh => absurd (nI_le0 (by omega)) hh)
          refine lv_iconst (v := bI false) hx hb dX3_some_38 (by decide) ?_
          refine lv_istore (lv' := [(4, .int (bI false)), (5, .int (nI i)), (0, .ref (bd 0)), (1, .int (nI j)), (2, .int (nI a)), (3, .int (nI w))]) hx hb dX3_some_39 hl (by decide) rfl (fun ls hl => ?_)
          refine lv_iinc (k := 1) (v := nI (i + 1)) (lv' := [(5, .int (nI (i + 1))), (4, .int (bI false)), (0, .ref (bd 0)), (1, .int (nI j)), (2, .int (nI a)), (3, .int (nI w))]) hx hb dX3_some_41 hl rfl (nI_1 i) (by decide) rfl (fun ls hl => ?_)
          refine lv_goto (tgt := 6) hx hb dX3_some_44 rfl ?_
          exact ih (i + 1) _ (by omega) (by rw [hu]; exact lv_sub hl [0, 1, 2, 3, 4, 5] rfl)
      · have hu : anB (pgS fm j) a (i + 1) = true := by simp [anB, hc]
        refine lv_iload hx hb dX3_some_6 (lv_at hl 0 rfl) ?_
        refine lv_iload_n hx hb dX3_some_8 rfl (lv_at hl 5 rfl) ?_
        refine lv_icmp_ge (tgt := 47) hx hb dX3_some_9 rfl (fun hh => absurd hh (nI_ge hi2 (by omega))) (fun _ => ?_)
        refine lv_iload hx hb dX3_some_12 (lv_at hl 1 rfl) ?_
        refine g_top (y := 1) (by rw [hc]; rfl) ?_
        refine lv_if_ne (tgt := 34) hx hb dX3_some_14 rfl (fun _ => ?_) (fun hh => absurd hh (by decide))
        refine lv_iconst (v := bI true) hx hb dX3_some_34 (by decide) ?_
        refine lv_goto (tgt := 39) hx hb dX3_some_35 rfl ?_
        refine lv_istore (lv' := [(4, .int (bI true)), (5, .int (nI i)), (0, .ref (bd 0)), (1, .int (nI j)), (2, .int (nI a)), (3, .int (nI w))]) hx hb dX3_some_39 hl (by decide) rfl (fun ls hl => ?_)
        refine lv_iinc (k := 1) (v := nI (i + 1)) (lv' := [(5, .int (nI (i + 1))), (4, .int (bI true)), (0, .ref (bd 0)), (1, .int (nI j)), (2, .int (nI a)), (3, .int (nI w))]) hx hb dX3_some_41 hl rfl (nI_1 i) (by decide) rfl (fun ls hl => ?_)
        refine lv_goto (tgt := 6) hx hb dX3_some_44 rfl ?_
        exact ih (i + 1) _ (by omega) (by rw [hu]; exact lv_sub hl [0, 1, 2, 3, 4, 5] rfl)
  exact loop w 0 _ (by omega) (lv_sub hl [0, 1, 2, 3, 4, 5] rfl)
set_option maxHeartbeats 4000000 in
set_option maxRecDepth 100000 in
theorem rm_tablesOf {j : Nat} (hj : j < 5) (hB : ∀ i, fm i ≤ 24)  : gM l yX3_tablesOf cX3_tablesOf 4 (some .int) 1 25 D cls (fpT cI cQ cZ) A (rfW bd cI cZ run fm cm wr mk wo fc cc) [.ref (bd 0), .int (nI j)] (some (.int (nI (tbN (pgS fm j))))) (rfW bd cI cZ run fm cm wr mk wo fc cc) := by
  refine gM_of (by decide) (Nat.le_of_ble_eq_true rfl) ?_
  intro p e s m args below meth c ls hx hb hml hown hts hN hr hlk hl hG
  have hown : s.vm.findClass RX3 = some m.cls := hown
  have hl : lv_has ls 4 [(0, .ref (bd 0)), (1, .int (nI j))] := hl
  refine lv_iconst (v := nI 1) hx hb dX3_tablesOf_0 (by decide) ?_
  refine lv_istore_n (lv' := [(2, .int (nI 1)), (0, .ref (bd 0)), (1, .int (nI j))]) hx hb dX3_tablesOf_1 rfl hl (by decide) rfl (fun ls hl => ?_)
  refine lv_iconst (v := nI 0) hx hb dX3_tablesOf_2 (by decide) ?_
  refine lv_istore_n (lv' := [(3, .int (nI 0)), (2, .int (nI 1)), (0, .ref (bd 0)), (1, .int (nI j))]) hx hb dX3_tablesOf_3 rfl hl (by decide) rfl (fun ls hl => ?_)
  have loop2 : ∀ (n i : Nat) (H : Heap) (locs : List Loc) (ls : Array Slot), i + n = 4 → gG D cls (fpT cI cQ cZ) A s (rfW bd cI cZ run fm cm wr mk wo fc cc) H locs → lv_has ls 4 [(3, .int (nI (i * 16))), (2, .int (nI ((1 + spU (pgS fm j) 4 16) + spU (pgS fm j) 16 i))), (0, .ref (bd 0)), (1, .int (nI j))] → W p l e (gR 1 25) s m args below meth c H locs 0 0 (gQ below args s D cls (fpT cI cQ cZ) A (some (.int (nI (tbN (pgS fm j))))) (rfW bd cI cZ run fm cm wr mk wo fc cc)) (F0 m 36 ls []) := by
    intro n
    induction n with
    | zero =>
      intro i H locs ls hi hG hl
      obtain rfl : i = 4 := by omega
      refine lv_iload_n hx hb dX3_tablesOf_36 rfl (lv_at hl 0 rfl) ?_
      refine lv_bipush (v := nI 64) hx hb dX3_tablesOf_37 (by decide) ?_
      refine lv_icmp_ge (tgt := 67) hx hb dX3_tablesOf_39 rfl (fun _ => ?_) (fun hh => absurd (nI_le (by decide) (by decide)) hh)
      refine lv_iload_n hx hb dX3_tablesOf_67 rfl (lv_at hl 1 rfl) ?_
      refine g_top (y := nI (tbN (pgS fm j))) (by unfold tbN; congr 1; omega) ?_
      exact g_iret hx hb hr hlk hG dX3_tablesOf_68
    | succ n ih =>
      intro i H locs ls hi hG hl
      have hi2 : i < 4 := by omega
      cases hc : anB (pgS fm j) (i * 16) 16
      · have hu : spU (pgS fm j) 16 (i + 1) = spU (pgS fm j) 16 i := by simp [spU, hc]
        refine lv_iload_n hx hb dX3_tablesOf_36 rfl (lv_at hl 0 rfl) ?_
        refine lv_bipush (v := nI 64) hx hb dX3_tablesOf_37 (by decide) ?_
        refine lv_icmp_ge (tgt := 67) hx hb dX3_tablesOf_39 rfl (fun hh => absurd hh (nI_ge (by omega) (by decide))) (fun _ => ?_)
        refine lv_aload_n hx hb dX3_tablesOf_42 rfl (lv_at hl 2 rfl) ?_
        refine lv_iload_n hx hb dX3_tablesOf_43 rfl (lv_at hl 3 rfl) ?_
        refine lv_iload_n hx hb dX3_tablesOf_44 rfl (lv_at hl 0 rfl) ?_
        refine lv_bipush (v := nI 16) hx hb dX3_tablesOf_45 (by decide) ?_
        refine g_callV (As := [.int (nI j), .int (nI (i * 16)), .int (nI 16)]) (rest := []) (fs := [.ref (bd 1), .ref (bd 2), .ref (bd 3), .ref (bd 4), .ref (bd 5), .ref (bd 6), .int fc, .int cc]) (rm_some (a := i * 16) (w := 16) hj (by omega) hB) hx hb hml hown hts hN hG t_276 t_278 s_22 t_4 t_279 nm_X3_some ⟨by decide, by decide⟩ rf_0 rfl hl.1 (Nat.le_of_ble_eq_true rfl) dX3_tablesOf_47 ⟨Nat.zero_le _, Nat.zero_le _⟩ (fun H locs hG => ?_)
        refine W.eq (g2 := F0 m 50 ls [.int (bI (anB (pgS fm j) (i * 16) 16))]) rfl ?_
        refine g_top (y := 0) (by rw [hc]; rfl) ?_
        refine lv_if_eq (tgt := 59) hx hb dX3_tablesOf_50 rfl (fun _ => ?_) (fun hh => absurd (rfl) hh)
        refine lv_iload_n hx hb dX3_tablesOf_59 rfl (lv_at hl 1 rfl) ?_
        refine lv_istore_n (lv' := [(2, .int (nI ((1 + spU (pgS fm j) 4 16) + spU (pgS fm j) 16 i))), (3, .int (nI (i * 16))), (0, .ref (bd 0)), (1, .int (nI j))]) hx hb dX3_tablesOf_60 rfl hl (by decide) rfl (fun ls hl => ?_)
        refine lv_iinc (k := 1) (v := nI ((i + 1) * 16)) (lv' := [(3, .int (nI ((i + 1) * 16))), (2, .int (nI ((1 + spU (pgS fm j) 4 16) + spU (pgS fm j) 16 i))), (0, .ref (bd 0)), (1, .int (nI j))]) hx hb dX3_tablesOf_61 hl rfl (by rw [show Int32.ofInt 16 = nI 16 from by decide, nI_add, ← Nat.succ_mul]) (by decide) rfl (fun ls hl => ?_)
        refine lv_goto (tgt := 36) hx hb dX3_tablesOf_64 rfl ?_
        exact ih (i + 1) _ _ _ (by omega) hG (by rw [hu]; exact lv_sub hl [0, 1, 2, 3] rfl)
      · have hu : (1 + spU (pgS fm j) 4 16) + spU (pgS fm j) 16 (i + 1) = (1 + spU (pgS fm j) 4 16) + spU (pgS fm j) 16 i + 1 := by simp [spU, hc]; omega
        refine lv_iload_n hx hb dX3_tablesOf_36 rfl (lv_at hl 0 rfl) ?_
        refine lv_bipush (v := nI 64) hx hb dX3_tablesOf_37 (by decide) ?_
        refine lv_icmp_ge (tgt := 67) hx hb dX3_tablesOf_39 rfl (fun hh => absurd hh (nI_ge (by omega) (by decide))) (fun _ => ?_)
        refine lv_aload_n hx hb dX3_tablesOf_42 rfl (lv_at hl 2 rfl) ?_
        refine lv_iload_n hx hb dX3_tablesOf_43 rfl (lv_at hl 3 rfl) ?_
        refine lv_iload_n hx hb dX3_tablesOf_44 rfl (lv_at hl 0 rfl) ?_
        refine lv_bipush (v := nI 16) hx hb dX3_tablesOf_45 (by decide) ?_
        refine g_callV (As := [.int (nI j), .int (nI (i * 16)), .int (nI 16)]) (rest := []) (fs := [.ref (bd 1), .ref (bd 2), .ref (bd 3), .ref (bd 4), .ref (bd 5), .ref (bd 6), .int fc, .int cc]) (rm_some (a := i * 16) (w := 16) hj (by omega) hB) hx hb hml hown hts hN hG t_276 t_278 s_22 t_4 t_279 nm_X3_some ⟨by decide, by decide⟩ rf_0 rfl hl.1 (Nat.le_of_ble_eq_true rfl) dX3_tablesOf_47 ⟨Nat.zero_le _, Nat.zero_le _⟩ (fun H locs hG => ?_)
        refine W.eq (g2 := F0 m 50 ls [.int (bI (anB (pgS fm j) (i * 16) 16))]) rfl ?_
        refine g_top (y := 1) (by rw [hc]; rfl) ?_
        refine lv_if_eq (tgt := 59) hx hb dX3_tablesOf_50 rfl (fun hh => absurd hh (by decide)) (fun _ => ?_)
        refine lv_iload_n hx hb dX3_tablesOf_53 rfl (lv_at hl 1 rfl) ?_
        refine lv_iconst (v := nI 1) hx hb dX3_tablesOf_54 (by decide) ?_
        refine lv_iadd hx hb dX3_tablesOf_55 ?_
        refine g_top (y := nI ((1 + spU (pgS fm j) 4 16) + spU (pgS fm j) 16 (i + 1))) (by rw [hu]; exact nI_add _ 1) ?_
        refine lv_goto (tgt := 60) hx hb dX3_tablesOf_56 rfl ?_
        refine lv_istore_n (lv' := [(2, .int (nI ((1 + spU (pgS fm j) 4 16) + spU (pgS fm j) 16 (i + 1)))), (3, .int (nI (i * 16))), (0, .ref (bd 0)), (1, .int (nI j))]) hx hb dX3_tablesOf_60 rfl hl (by decide) rfl (fun ls hl => ?_)
        refine lv_iinc (k := 1) (v := nI ((i + 1) * 16)) (lv' := [(3, .int (nI ((i + 1) * 16))), (2, .int (nI ((1 + spU (pgS fm j) 4 16) + spU (pgS fm j) 16 (i + 1)))), (0, .ref (bd 0)), (1, .int (nI j))]) hx hb dX3_tablesOf_61 hl rfl (by rw [show Int32.ofInt 16 = nI 16 from by decide, nI_add, ← Nat.succ_mul]) (by decide) rfl (fun ls hl => ?_)
        refine lv_goto (tgt := 36) hx hb dX3_tablesOf_64 rfl ?_
        exact ih (i + 1) _ _ _ (by omega) hG (lv_sub hl [0, 1, 2, 3] rfl)
  have loop : ∀ (n i : Nat) (H : Heap) (locs : List Loc) (ls : Array Slot), i + n = 16 → gG D cls (fpT cI cQ cZ) A s (rfW bd cI cZ run fm cm wr mk wo fc cc) H locs → lv_has ls 4 [(3, .int (nI (i * 4))), (2, .int (nI (1 + spU (pgS fm j) 4 i))), (0, .ref (bd 0)), (1, .int (nI j))] → W p l e (gR 1 25) s m args below meth c H locs 0 0 (gQ below args s D cls (fpT cI cQ cZ) A (some (.int (nI (tbN (pgS fm j))))) (rfW bd cI cZ run fm cm wr mk wo fc cc)) (F0 m 4 ls []) := by
    intro n
    induction n with
    | zero =>
      intro i H locs ls hi hG hl
      obtain rfl : i = 16 := by omega
      refine lv_iload_n hx hb dX3_tablesOf_4 rfl (lv_at hl 0 rfl) ?_
      refine lv_bipush (v := nI 64) hx hb dX3_tablesOf_5 (by decide) ?_
      refine lv_icmp_ge (tgt := 34) hx hb dX3_tablesOf_7 rfl (fun _ => ?_) (fun hh => absurd (nI_le (by decide) (by decide)) hh)
      refine lv_iconst (v := nI 0) hx hb dX3_tablesOf_34 (by decide) ?_
      refine lv_istore_n (lv' := [(3, .int (nI 0)), (2, .int (nI (1 + spU (pgS fm j) 4 16))), (0, .ref (bd 0)), (1, .int (nI j))]) hx hb dX3_tablesOf_35 rfl hl (by decide) rfl (fun ls hl => ?_)
      exact loop2 4 0 _ _ _ (by omega) hG (lv_sub hl [0, 1, 2, 3] rfl)
    | succ n ih =>
      intro i H locs ls hi hG hl
      have hi2 : i < 16 := by omega
      cases hc : anB (pgS fm j) (i * 4) 4
      · have hu : spU (pgS fm j) 4 (i + 1) = spU (pgS fm j) 4 i := by simp [spU, hc]
        refine lv_iload_n hx hb dX3_tablesOf_4 rfl (lv_at hl 0 rfl) ?_
        refine lv_bipush (v := nI 64) hx hb dX3_tablesOf_5 (by decide) ?_
        refine lv_icmp_ge (tgt := 34) hx hb dX3_tablesOf_7 rfl (fun hh => absurd hh (nI_ge (by omega) (by decide))) (fun _ => ?_)
        refine lv_aload_n hx hb dX3_tablesOf_10 rfl (lv_at hl 2 rfl) ?_
        refine lv_iload_n hx hb dX3_tablesOf_11 rfl (lv_at hl 3 rfl) ?_
        refine lv_iload_n hx hb dX3_tablesOf_12 rfl (lv_at hl 0 rfl) ?_
        refine lv_iconst (v := nI 4) hx hb dX3_tablesOf_13 (by decide) ?_
        refine g_callV (As := [.int (nI j), .int (nI (i * 4)), .int (nI 4)]) (rest := []) (fs := [.ref (bd 1), .ref (bd 2), .ref (bd 3), .ref (bd 4), .ref (bd 5), .ref (bd 6), .int fc, .int cc]) (rm_some (a := i * 4) (w := 4) hj (by omega) hB) hx hb hml hown hts hN hG t_276 t_278 s_22 t_4 t_279 nm_X3_some ⟨by decide, by decide⟩ rf_0 rfl hl.1 (Nat.le_of_ble_eq_true rfl) dX3_tablesOf_14 ⟨Nat.zero_le _, Nat.zero_le _⟩ (fun H locs hG => ?_)
        refine W.eq (g2 := F0 m 17 ls [.int (bI (anB (pgS fm j) (i * 4) 4))]) rfl ?_
        refine g_top (y := 0) (by rw [hc]; rfl) ?_
        refine lv_if_eq (tgt := 26) hx hb dX3_tablesOf_17 rfl (fun _ => ?_) (fun hh => absurd (rfl) hh)
        refine lv_iload_n hx hb dX3_tablesOf_26 rfl (lv_at hl 1 rfl) ?_
        refine lv_istore_n (lv' := [(2, .int (nI (1 + spU (pgS fm j) 4 i))), (3, .int (nI (i * 4))), (0, .ref (bd 0)), (1, .int (nI j))]) hx hb dX3_tablesOf_27 rfl hl (by decide) rfl (fun ls hl => ?_)
        refine lv_iinc (k := 1) (v := nI ((i + 1) * 4)) (lv' := [(3, .int (nI ((i + 1) * 4))), (2, .int (nI (1 + spU (pgS fm j) 4 i))), (0, .ref (bd 0)), (1, .int (nI j))]) hx hb dX3_tablesOf_28 hl rfl (by rw [show Int32.ofInt 4 = nI 4 from by decide, nI_add, ← Nat.succ_mul]) (by decide) rfl (fun ls hl => ?_)
        refine lv_goto (tgt := 4) hx hb dX3_tablesOf_31 rfl ?_
        exact ih (i + 1) _ _ _ (by omega) hG (by rw [hu]; exact lv_sub hl [0, 1, 2, 3] rfl)
      · have hu : 1 + spU (pgS fm j) 4 (i + 1) = 1 + spU (pgS fm j) 4 i + 1 := by simp [spU, hc]; omega
        refine lv_iload_n hx hb dX3_tablesOf_4 rfl (lv_at hl 0 rfl) ?_
        refine lv_bipush (v := nI 64) hx hb dX3_tablesOf_5 (by decide) ?_
        refine lv_icmp_ge (tgt := 34) hx hb dX3_tablesOf_7 rfl (fun hh => absurd hh (nI_ge (by omega) (by decide))) (fun _ => ?_)
        refine lv_aload_n hx hb dX3_tablesOf_10 rfl (lv_at hl 2 rfl) ?_
        refine lv_iload_n hx hb dX3_tablesOf_11 rfl (lv_at hl 3 rfl) ?_
        refine lv_iload_n hx hb dX3_tablesOf_12 rfl (lv_at hl 0 rfl) ?_
        refine lv_iconst (v := nI 4) hx hb dX3_tablesOf_13 (by decide) ?_
        refine g_callV (As := [.int (nI j), .int (nI (i * 4)), .int (nI 4)]) (rest := []) (fs := [.ref (bd 1), .ref (bd 2), .ref (bd 3), .ref (bd 4), .ref (bd 5), .ref (bd 6), .int fc, .int cc]) (rm_some (a := i * 4) (w := 4) hj (by omega) hB) hx hb hml hown hts hN hG t_276 t_278 s_22 t_4 t_279 nm_X3_some ⟨by decide, by decide⟩ rf_0 rfl hl.1 (Nat.le_of_ble_eq_true rfl) dX3_tablesOf_14 ⟨Nat.zero_le _, Nat.zero_le _⟩ (fun H locs hG => ?_)
        refine W.eq (g2 := F0 m 17 ls [.int (bI (anB (pgS fm j) (i * 4) 4))]) rfl ?_
        refine g_top (y := 1) (by rw [hc]; rfl) ?_
        refine lv_if_eq (tgt := 26) hx hb dX3_tablesOf_17 rfl (fun hh => absurd hh (by decide)) (fun _ => ?_)
        refine lv_iload_n hx hb dX3_tablesOf_20 rfl (lv_at hl 1 rfl) ?_
        refine lv_iconst (v := nI 1) hx hb dX3_tablesOf_21 (by decide) ?_
        refine lv_iadd hx hb dX3_tablesOf_22 ?_
        refine g_top (y := nI (1 + spU (pgS fm j) 4 (i + 1))) (by rw [hu]; exact nI_add _ 1) ?_
        refine lv_goto (tgt := 27) hx hb dX3_tablesOf_23 rfl ?_
        refine lv_istore_n (lv' := [(2, .int (nI (1 + spU (pgS fm j) 4 (i + 1)))), (3, .int (nI (i * 4))), (0, .ref (bd 0)), (1, .int (nI j))]) hx hb dX3_tablesOf_27 rfl hl (by decide) rfl (fun ls hl => ?_)
        refine lv_iinc (k := 1) (v := nI ((i + 1) * 4)) (lv' := [(3, .int (nI ((i + 1) * 4))), (2, .int (nI (1 + spU (pgS fm j) 4 (i + 1)))), (0, .ref (bd 0)), (1, .int (nI j))]) hx hb dX3_tablesOf_28 hl rfl (by rw [show Int32.ofInt 4 = nI 4 from by decide, nI_add, ← Nat.succ_mul]) (by decide) rfl (fun ls hl => ?_)
        refine lv_goto (tgt := 4) hx hb dX3_tablesOf_31 rfl ?_
        exact ih (i + 1) _ _ _ (by omega) hG (lv_sub hl [0, 1, 2, 3] rfl)
  exact loop 16 0 _ _ _ (by omega) hG (lv_sub hl [0, 1, 2, 3] rfl)
set_option maxHeartbeats 4000000 in
set_option maxRecDepth 100000 in
theorem rm_leads {f : Nat} (hf : f < 24) (hB : ∀ i, fm i ≤ 24)  : gM l yX3_leads cX3_leads 4 (some .int) 0 0 D cls (fpT cI cQ cZ) A (rfW bd cI cZ run fm cm wr mk wo fc cc) [.ref (bd 0), .int (nI f)] (some (.int (nI (ldN fm f)))) (rfW bd cI cZ run fm cm wr mk wo fc cc) := by
  refine gM_of (by decide) (Nat.le_of_ble_eq_true rfl) ?_
  intro p e s m args below meth c ls hx hb hml hown hts hN hr hlk hl hG
  have hown : s.vm.findClass RX3 = some m.cls := hown
  have hl : lv_has ls 4 [(0, .ref (bd 0)), (1, .int (nI f))] := hl
  refine lv_iconst (v := nI 0) hx hb dX3_leads_0 (by decide) ?_
  refine lv_istore_n (lv' := [(2, .int (nI 0)), (0, .ref (bd 0)), (1, .int (nI f))]) hx hb dX3_leads_1 rfl hl (by decide) rfl (fun ls hl => ?_)
  refine lv_iconst (v := nI 0) hx hb dX3_leads_2 (by decide) ?_
  refine lv_istore_n (lv' := [(3, .int (nI 0)), (2, .int (nI 0)), (0, .ref (bd 0)), (1, .int (nI f))]) hx hb dX3_leads_3 rfl hl (by decide) rfl (fun ls hl => ?_)
  have loop : ∀ (n i : Nat) (ls : Array Slot), i + n = 320 → lv_has ls 4 [(3, .int (nI i)), (2, .int (nI (pcN (fun k => fm k == f + 1) i))), (0, .ref (bd 0)), (1, .int (nI f))] → W p l e (gR 0 0) s m args below meth c s.heap [] 0 0 (gQ below args s D cls (fpT cI cQ cZ) A (some (.int (nI (ldN fm f)))) (rfW bd cI cZ run fm cm wr mk wo fc cc)) (F0 m 4 ls []) := by
    intro n
    induction n with
    | zero =>
      intro i ls hi hl
      obtain rfl : i = 320 := by omega
      refine lv_iload_n hx hb dX3_leads_4 rfl (lv_at hl 0 rfl) ?_
      refine lv_sipush (v := nI 320) hx hb dX3_leads_5 (by decide) ?_
      refine lv_icmp_ge (tgt := 37) hx hb dX3_leads_8 rfl (fun _ => ?_) (fun hh => absurd (nI_le (Nat.le_refl 320) (by decide)) hh)
      refine lv_iload_n hx hb dX3_leads_37 rfl (lv_at hl 1 rfl) ?_
      exact g_iret hx hb hr hlk hG dX3_leads_38
    | succ n ih =>
      intro i ls hi hl
      have hi2 : i < 320 := by omega
      have hbi := hB i
      by_cases hc : fm i = f + 1
      · have hu : pcN (fun k => fm k == f + 1) (i + 1) = pcN (fun k => fm k == f + 1) i + 1 := by simp [pcN, hc]
        refine lv_iload_n hx hb dX3_leads_4 rfl (lv_at hl 0 rfl) ?_
        refine lv_sipush (v := nI 320) hx hb dX3_leads_5 (by decide) ?_
        refine lv_icmp_ge (tgt := 37) hx hb dX3_leads_8 rfl (fun hh => absurd hh (nI_ge hi2 (by decide))) (fun _ => ?_)
        refine lv_aload_n hx hb dX3_leads_11 rfl (lv_at hl 2 rfl) ?_
        refine g_get (k := 1) (v := .ref (bd 2)) (C := RX3) (ref := RX3) (fs := [.ref (bd 1), .ref (bd 2), .ref (bd 3), .ref (bd 4), .ref (bd 5), .ref (bd 6), .int fc, .int cc]) hx hb hown hts hG gX3 rfl rf_0 (by decide) t_239 rfl rfl dX3_leads_12 ?_
        refine lv_iload_n hx hb dX3_leads_15 rfl (lv_at hl 0 rfl) ?_
        refine g_iald (i := i) (t0 := 0) hx hb hG rf_2 rfl (hi2) (by decide) dX3_leads_16 ?_
        refine lv_iload_n hx hb dX3_leads_17 rfl (lv_at hl 3 rfl) ?_
        refine lv_iconst (v := nI 1) hx hb dX3_leads_18 (by decide) ?_
        refine lv_iadd hx hb dX3_leads_19 ?_
        refine g_top (y := nI (f + 1)) (nI_add f 1) ?_
        refine lv_icmp_ne (tgt := 29) hx hb dX3_leads_20 rfl (fun hh => absurd (by rw [hc]) hh) (fun _ => ?_)
        refine lv_iload_n hx hb dX3_leads_23 rfl (lv_at hl 1 rfl) ?_
        refine lv_iconst (v := nI 1) hx hb dX3_leads_24 (by decide) ?_
        refine lv_iadd hx hb dX3_leads_25 ?_
        refine g_top (y := nI (pcN (fun k => fm k == f + 1) (i + 1))) (by rw [hu]; exact nI_add _ 1) ?_
        refine lv_goto (tgt := 30) hx hb dX3_leads_26 rfl ?_
        refine lv_istore_n (lv' := [(2, .int (nI (pcN (fun k => fm k == f + 1) (i + 1)))), (3, .int (nI i)), (0, .ref (bd 0)), (1, .int (nI f))]) hx hb dX3_leads_30 rfl hl (by decide) rfl (fun ls hl => ?_)
        refine lv_iinc (k := 1) (v := nI (i + 1)) (lv' := [(3, .int (nI (i + 1))), (2, .int (nI (pcN (fun k => fm k == f + 1) (i + 1)))), (0, .ref (bd 0)), (1, .int (nI f))]) hx hb dX3_leads_31 hl rfl (nI_1 i) (by decide) rfl (fun ls hl => ?_)
        refine lv_goto (tgt := 4) hx hb dX3_leads_34 rfl ?_
        exact ih (i + 1) _ (by omega) (lv_sub hl [0, 1, 2, 3] rfl)
      · have hu : pcN (fun k => fm k == f + 1) (i + 1) = pcN (fun k => fm k == f + 1) i := by simp [pcN, hc]
        refine lv_iload_n hx hb dX3_leads_4 rfl (lv_at hl 0 rfl) ?_
        refine lv_sipush (v := nI 320) hx hb dX3_leads_5 (by decide) ?_
        refine lv_icmp_ge (tgt := 37) hx hb dX3_leads_8 rfl (fun hh => absurd hh (nI_ge hi2 (by decide))) (fun _ => ?_)
        refine lv_aload_n hx hb dX3_leads_11 rfl (lv_at hl 2 rfl) ?_
        refine g_get (k := 1) (v := .ref (bd 2)) (C := RX3) (ref := RX3) (fs := [.ref (bd 1), .ref (bd 2), .ref (bd 3), .ref (bd 4), .ref (bd 5), .ref (bd 6), .int fc, .int cc]) hx hb hown hts hG gX3 rfl rf_0 (by decide) t_239 rfl rfl dX3_leads_12 ?_
        refine lv_iload_n hx hb dX3_leads_15 rfl (lv_at hl 0 rfl) ?_
        refine g_iald (i := i) (t0 := 0) hx hb hG rf_2 rfl (hi2) (by decide) dX3_leads_16 ?_
        refine lv_iload_n hx hb dX3_leads_17 rfl (lv_at hl 3 rfl) ?_
        refine lv_iconst (v := nI 1) hx hb dX3_leads_18 (by decide) ?_
        refine lv_iadd hx hb dX3_leads_19 ?_
        refine g_top (y := nI (f + 1)) (nI_add f 1) ?_
        refine lv_icmp_ne (tgt := 29) hx hb dX3_leads_20 rfl (fun _ => ?_) (fun hh => absurd hh (fun q => hc ((nI_eq (by omega) (by omega)).mp q)))
        refine lv_iload_n hx hb dX3_leads_29 rfl (lv_at hl 1 rfl) ?_
        refine lv_istore_n (lv' := [(2, .int (nI (pcN (fun k => fm k == f + 1) i))), (3, .int (nI i)), (0, .ref (bd 0)), (1, .int (nI f))]) hx hb dX3_leads_30 rfl hl (by decide) rfl (fun ls hl => ?_)
        refine lv_iinc (k := 1) (v := nI (i + 1)) (lv' := [(3, .int (nI (i + 1))), (2, .int (nI (pcN (fun k => fm k == f + 1) i))), (0, .ref (bd 0)), (1, .int (nI f))]) hx hb dX3_leads_31 hl rfl (nI_1 i) (by decide) rfl (fun ls hl => ?_)
        refine lv_goto (tgt := 4) hx hb dX3_leads_34 rfl ?_
        exact ih (i + 1) _ (by omega) (by rw [hu]; exact lv_sub hl [0, 1, 2, 3] rfl)
  exact loop 320 0 _ (by omega) (lv_sub hl [0, 1, 2, 3] rfl)
set_option maxHeartbeats 4000000 in
set_option maxRecDepth 100000 in
theorem rm_free (hB : ∀ i, fm i ≤ 24)  : gM l yX3_free cX3_free 3 (some .int) 2 48 D cls (fpT cI cQ cZ) A (rfW bd cI cZ run fm cm wr mk wo fc cc) [.ref (bd 0)] (some (.int (frR run fm))) (rfW bd cI cZ run fm cm wr mk wo fc cc) := by
  refine gM_of (by decide) (Nat.le_of_ble_eq_true rfl) ?_
  intro p e s m args below meth c ls hx hb hml hown hts hN hr hlk hl hG
  have hown : s.vm.findClass RX3 = some m.cls := hown
  have hl : lv_has ls 3 [(0, .ref (bd 0))] := hl
  refine lv_bipush (v := nI 24) hx hb dX3_free_0 (by decide) ?_
  refine lv_istore_n (lv' := [(1, .int (nI 24)), (0, .ref (bd 0))]) hx hb dX3_free_2 rfl hl (by decide) rfl (fun ls hl => ?_)
  refine lv_iconst (v := nI 0) hx hb dX3_free_3 (by decide) ?_
  refine lv_istore_n (lv' := [(2, .int (nI 0)), (1, .int (nI 24)), (0, .ref (bd 0))]) hx hb dX3_free_4 rfl hl (by decide) rfl (fun ls hl => ?_)
  have loop2 : ∀ (n i : Nat) (H : Heap) (locs : List Loc) (ls : Array Slot), i + n = 5 → gG D cls (fpT cI cQ cZ) A s (rfW bd cI cZ run fm cm wr mk wo fc cc) H locs → lv_has ls 3 [(2, .int (nI i)), (1, .int (frL run (pgS fm) (nI (24 - usR fm 24)) i)), (0, .ref (bd 0))] → W p l e (gR 2 48) s m args below meth c H locs 0 0 (gQ below args s D cls (fpT cI cQ cZ) A (some (.int (frR run fm))) (rfW bd cI cZ run fm cm wr mk wo fc cc)) (F0 m 35 ls []) := by
    intro n
    induction n with
    | zero =>
      intro i H locs ls hi hG hl
      obtain rfl : i = 5 := by omega
      refine lv_iload_n hx hb dX3_free_35 rfl (lv_at hl 0 rfl) ?_
      refine lv_iconst (v := nI 5) hx hb dX3_free_36 (by decide) ?_
      refine lv_icmp_ge (tgt := 67) hx hb dX3_free_37 rfl (fun _ => ?_) (fun hh => absurd (nI_le (Nat.le_refl 5) (by decide)) hh)
      refine lv_iload_n hx hb dX3_free_67 rfl (lv_at hl 1 rfl) ?_
      exact g_iret hx hb hr hlk hG dX3_free_68
    | succ n ih =>
      intro i H locs ls hi hG hl
      have hi5 : i < 5 := by omega
      cases hc : run i
      · have hu : frL run (pgS fm) (nI (24 - usR fm 24)) (i + 1) = frL run (pgS fm) (nI (24 - usR fm 24)) i := by simp [frL, hc]
        refine lv_iload_n hx hb dX3_free_35 rfl (lv_at hl 0 rfl) ?_
        refine lv_iconst (v := nI 5) hx hb dX3_free_36 (by decide) ?_
        refine lv_icmp_ge (tgt := 67) hx hb dX3_free_37 rfl (fun hh => absurd hh (nI_ge hi5 (by decide))) (fun _ => ?_)
        refine lv_aload_n hx hb dX3_free_40 rfl (lv_at hl 2 rfl) ?_
        refine g_get (k := 0) (v := .ref (bd 1)) (C := RX3) (ref := RX3) (fs := [.ref (bd 1), .ref (bd 2), .ref (bd 3), .ref (bd 4), .ref (bd 5), .ref (bd 6), .int fc, .int cc]) hx hb hown hts hG gX3 rfl rf_0 (by decide) t_238 rfl rfl dX3_free_41 ?_
        refine lv_iload_n hx hb dX3_free_44 rfl (lv_at hl 0 rfl) ?_
        refine g_zald (i := i) (t0 := 2) hx hb hG rf_1 rfl (hi5) (by decide) dX3_free_45 ?_
        refine g_top (y := 0) (by rw [hc]; rfl) ?_
        refine lv_if_eq (tgt := 59) hx hb dX3_free_46 rfl (fun _ => ?_) (fun hh => absurd (rfl) hh)
        refine lv_iload_n hx hb dX3_free_59 rfl (lv_at hl 1 rfl) ?_
        refine lv_istore_n (lv' := [(1, .int (frL run (pgS fm) (nI (24 - usR fm 24)) i)), (2, .int (nI i)), (0, .ref (bd 0))]) hx hb dX3_free_60 rfl hl (by decide) rfl (fun ls hl => ?_)
        refine lv_iinc (k := 1) (v := nI (i + 1)) (lv' := [(2, .int (nI (i + 1))), (1, .int (frL run (pgS fm) (nI (24 - usR fm 24)) i)), (0, .ref (bd 0))]) hx hb dX3_free_61 hl rfl (nI_1 i) (by decide) rfl (fun ls hl => ?_)
        refine lv_goto (tgt := 35) hx hb dX3_free_64 rfl ?_
        exact ih (i + 1) _ _ _ (by omega) hG (by rw [hu]; exact lv_sub hl [0, 1, 2] rfl)
      · have hu : frL run (pgS fm) (nI (24 - usR fm 24)) (i + 1) = frL run (pgS fm) (nI (24 - usR fm 24)) i - nI (tbN (pgS fm i)) := by simp [frL, hc]
        refine lv_iload_n hx hb dX3_free_35 rfl (lv_at hl 0 rfl) ?_
        refine lv_iconst (v := nI 5) hx hb dX3_free_36 (by decide) ?_
        refine lv_icmp_ge (tgt := 67) hx hb dX3_free_37 rfl (fun hh => absurd hh (nI_ge hi5 (by decide))) (fun _ => ?_)
        refine lv_aload_n hx hb dX3_free_40 rfl (lv_at hl 2 rfl) ?_
        refine g_get (k := 0) (v := .ref (bd 1)) (C := RX3) (ref := RX3) (fs := [.ref (bd 1), .ref (bd 2), .ref (bd 3), .ref (bd 4), .ref (bd 5), .ref (bd 6), .int fc, .int cc]) hx hb hown hts hG gX3 rfl rf_0 (by decide) t_238 rfl rfl dX3_free_41 ?_
        refine lv_iload_n hx hb dX3_free_44 rfl (lv_at hl 0 rfl) ?_
        refine g_zald (i := i) (t0 := 2) hx hb hG rf_1 rfl (hi5) (by decide) dX3_free_45 ?_
        refine g_top (y := 1) (by rw [hc]; rfl) ?_
        refine lv_if_eq (tgt := 59) hx hb dX3_free_46 rfl (fun hh => absurd hh (by decide)) (fun _ => ?_)
        refine lv_iload_n hx hb dX3_free_49 rfl (lv_at hl 1 rfl) ?_
        refine lv_aload_n hx hb dX3_free_50 rfl (lv_at hl 2 rfl) ?_
        refine lv_iload_n hx hb dX3_free_51 rfl (lv_at hl 0 rfl) ?_
        refine g_callV (As := [.int (nI i)]) (rest := [.int (frL run (pgS fm) (nI (24 - usR fm 24)) i)]) (fs := [.ref (bd 1), .ref (bd 2), .ref (bd 3), .ref (bd 4), .ref (bd 5), .ref (bd 6), .int fc, .int cc]) (rm_tablesOf hi5 hB) hx hb hml hown hts hN hG t_272 t_274 s_21 t_4 t_275 nm_X3_tablesOf ⟨by decide, by decide⟩ rf_0 rfl hl.1 (Nat.le_of_ble_eq_true rfl) dX3_free_52 ⟨Nat.zero_le _, Nat.zero_le _⟩ (fun H locs hG => ?_)
        refine W.eq (g2 := F0 m 55 ls [.int (nI (tbN (pgS fm i))), .int (frL run (pgS fm) (nI (24 - usR fm 24)) i)]) rfl ?_
        refine lv_isub hx hb dX3_free_55 ?_
        refine lv_goto (tgt := 60) hx hb dX3_free_56 rfl ?_
        refine lv_istore_n (lv' := [(1, .int ((frL run (pgS fm) (nI (24 - usR fm 24)) i) - (nI (tbN (pgS fm i))))), (2, .int (nI i)), (0, .ref (bd 0))]) hx hb dX3_free_60 rfl hl (by decide) rfl (fun ls hl => ?_)
        refine lv_iinc (k := 1) (v := nI (i + 1)) (lv' := [(2, .int (nI (i + 1))), (1, .int ((frL run (pgS fm) (nI (24 - usR fm 24)) i) - (nI (tbN (pgS fm i))))), (0, .ref (bd 0))]) hx hb dX3_free_61 hl rfl (nI_1 i) (by decide) rfl (fun ls hl => ?_)
        refine lv_goto (tgt := 35) hx hb dX3_free_64 rfl ?_
        exact ih (i + 1) _ _ _ (by omega) hG (by rw [hu]; exact lv_sub hl [0, 1, 2] rfl)
  have loop : ∀ (n i : Nat) (H : Heap) (locs : List Loc) (ls : Array Slot), i + n = 24 → gG D cls (fpT cI cQ cZ) A s (rfW bd cI cZ run fm cm wr mk wo fc cc) H locs → lv_has ls 3 [(2, .int (nI i)), (1, .int (nI (24 - usR fm i))), (0, .ref (bd 0))] → W p l e (gR 2 48) s m args below meth c H locs 0 0 (gQ below args s D cls (fpT cI cQ cZ) A (some (.int (frR run fm))) (rfW bd cI cZ run fm cm wr mk wo fc cc)) (F0 m 5 ls []) := by
    intro n
    induction n with
    | zero =>
      intro i H locs ls hi hG hl
      obtain rfl : i = 24 := by omega
      refine lv_iload_n hx hb dX3_free_5 rfl (lv_at hl 0 rfl) ?_
      refine lv_bipush (v := nI 24) hx hb dX3_free_6 (by decide) ?_
      refine lv_icmp_ge (tgt := 33) hx hb dX3_free_8 rfl (fun _ => ?_) (fun hh => absurd (nI_le (Nat.le_refl 24) (by decide)) hh)
      refine lv_iconst (v := nI 0) hx hb dX3_free_33 (by decide) ?_
      refine lv_istore_n (lv' := [(2, .int (nI 0)), (1, .int (nI (24 - usR fm 24))), (0, .ref (bd 0))]) hx hb dX3_free_34 rfl hl (by decide) rfl (fun ls hl => ?_)
      exact loop2 5 0 _ _ _ (by omega) hG (lv_sub hl [0, 1, 2] rfl)
    | succ n ih =>
      intro i H locs ls hi hG hl
      have hi2 : i < 24 := by omega
      have hl3 := ldN_le fm i
      have hus := usR_le fm i
      by_cases hc : 0 < ldN fm i
      · have hu : 24 - usR fm (i + 1) = 24 - usR fm i - 1 := by simp [usR, pcN, hc]; omega
        refine lv_iload_n hx hb dX3_free_5 rfl (lv_at hl 0 rfl) ?_
        refine lv_bipush (v := nI 24) hx hb dX3_free_6 (by decide) ?_
        refine lv_icmp_ge (tgt := 33) hx hb dX3_free_8 rfl (fun hh => absurd hh (nI_ge hi2 (by decide))) (fun _ => ?_)
        refine lv_aload_n hx hb dX3_free_11 rfl (lv_at hl 2 rfl) ?_
        refine lv_iload_n hx hb dX3_free_12 rfl (lv_at hl 0 rfl) ?_
        refine g_callV (As := [.int (nI i)]) (rest := []) (fs := [.ref (bd 1), .ref (bd 2), .ref (bd 3), .ref (bd 4), .ref (bd 5), .ref (bd 6), .int fc, .int cc]) (rm_leads hi2 hB) hx hb hml hown hts hN hG t_268 t_270 s_20 t_4 t_271 nm_X3_leads ⟨by decide, by decide⟩ rf_0 rfl hl.1 (Nat.le_of_ble_eq_true rfl) dX3_free_13 ⟨Nat.zero_le _, Nat.zero_le _⟩ (fun H locs hG => ?_)
        refine W.eq (g2 := F0 m 16 ls [.int (nI (ldN fm i))]) rfl ?_
        refine lv_if_le (tgt := 25) hx hb dX3_free_16 rfl (fun hh => absurd hh (nI_gt0 hc (by omega))) (fun _ => ?_)
        refine lv_iload_n hx hb dX3_free_19 rfl (lv_at hl 1 rfl) ?_
        refine lv_iconst (v := nI 1) hx hb dX3_free_20 (by decide) ?_
        refine lv_isub hx hb dX3_free_21 ?_
        refine g_top (y := nI (24 - usR fm (i + 1))) (by rw [hu]; exact pk_sub (b := 1) (by omega)) ?_
        refine lv_goto (tgt := 26) hx hb dX3_free_22 rfl ?_
        refine lv_istore_n (lv' := [(1, .int (nI (24 - usR fm (i + 1)))), (2, .int (nI i)), (0, .ref (bd 0))]) hx hb dX3_free_26 rfl hl (by decide) rfl (fun ls hl => ?_)
        refine lv_iinc (k := 1) (v := nI (i + 1)) (lv' := [(2, .int (nI (i + 1))), (1, .int (nI (24 - usR fm (i + 1)))), (0, .ref (bd 0))]) hx hb dX3_free_27 hl rfl (nI_1 i) (by decide) rfl (fun ls hl => ?_)
        refine lv_goto (tgt := 5) hx hb dX3_free_30 rfl ?_
        exact ih (i + 1) _ _ _ (by omega) hG (lv_sub hl [0, 1, 2] rfl)
      · have hu : usR fm (i + 1) = usR fm i := by simp [usR, pcN, hc]
        refine lv_iload_n hx hb dX3_free_5 rfl (lv_at hl 0 rfl) ?_
        refine lv_bipush (v := nI 24) hx hb dX3_free_6 (by decide) ?_
        refine lv_icmp_ge (tgt := 33) hx hb dX3_free_8 rfl (fun hh => absurd hh (nI_ge hi2 (by decide))) (fun _ => ?_)
        refine lv_aload_n hx hb dX3_free_11 rfl (lv_at hl 2 rfl) ?_
        refine lv_iload_n hx hb dX3_free_12 rfl (lv_at hl 0 rfl) ?_
        refine g_callV (As := [.int (nI i)]) (rest := []) (fs := [.ref (bd 1), .ref (bd 2), .ref (bd 3), .ref (bd 4), .ref (bd 5), .ref (bd 6), .int fc, .int cc]) (rm_leads hi2 hB) hx hb hml hown hts hN hG t_268 t_270 s_20 t_4 t_271 nm_X3_leads ⟨by decide, by decide⟩ rf_0 rfl hl.1 (Nat.le_of_ble_eq_true rfl) dX3_free_13 ⟨Nat.zero_le _, Nat.zero_le _⟩ (fun H locs hG => ?_)
        refine W.eq (g2 := F0 m 16 ls [.int (nI (ldN fm i))]) rfl ?_
        refine lv_if_le (tgt := 25) hx hb dX3_free_16 rfl (fun _ => ?_) (fun hh => absurd (nI_le0 (by omega)) hh)
        refine lv_iload_n hx hb dX3_free_25 rfl (lv_at hl 1 rfl) ?_
        refine lv_istore_n (lv' := [(1, .int (nI (24 - usR fm i))), (2, .int (nI i)), (0, .ref (bd 0))]) hx hb dX3_free_26 rfl hl (by decide) rfl (fun ls hl => ?_)
        refine lv_iinc (k := 1) (v := nI (i + 1)) (lv' := [(2, .int (nI (i + 1))), (1, .int (nI (24 - usR fm i))), (0, .ref (bd 0))]) hx hb dX3_free_27 hl rfl (nI_1 i) (by decide) rfl (fun ls hl => ?_)
        refine lv_goto (tgt := 5) hx hb dX3_free_30 rfl ?_
        exact ih (i + 1) _ _ _ (by omega) hG (by rw [hu]; exact lv_sub hl [0, 1, 2] rfl)
  exact loop 24 0 _ _ _ (by omega) hG (lv_sub hl [0, 1, 2] rfl)
set_option maxHeartbeats 4000000 in
set_option maxRecDepth 100000 in
theorem rm_unused {f : Nat} (hf : f ≤ 23) (hm : ∀ i, i < f → 0 < ldN fm i) (h : f = 23 ∨ ldN fm f = 0) (hB : ∀ i, fm i ≤ 24)  : gM l yX3_unused cX3_unused 2 (some .int) 1 23 D cls (fpT cI cQ cZ) A (rfW bd cI cZ run fm cm wr mk wo fc cc) [.ref (bd 0)] (some (.int (nI f))) (rfW bd cI cZ run fm cm wr mk wo fc cc) := by
  refine gM_of (by decide) (Nat.le_of_ble_eq_true rfl) ?_
  intro p e s m args below meth c ls hx hb hml hown hts hN hr hlk hl hG
  have hown : s.vm.findClass RX3 = some m.cls := hown
  have hl : lv_has ls 2 [(0, .ref (bd 0))] := hl
  refine lv_iconst (v := nI 0) hx hb dX3_unused_0 (by decide) ?_
  refine lv_istore_n (lv' := [(1, .int (nI 0)), (0, .ref (bd 0))]) hx hb dX3_unused_1 rfl hl (by decide) rfl (fun ls hl => ?_)
  have loop : ∀ (n i : Nat) (H : Heap) (locs : List Loc) (ls : Array Slot), i + n = f → gG D cls (fpT cI cQ cZ) A s (rfW bd cI cZ run fm cm wr mk wo fc cc) H locs → lv_has ls 2 [(1, .int (nI i)), (0, .ref (bd 0))] → W p l e (gR 1 23) s m args below meth c H locs 0 0 (gQ below args s D cls (fpT cI cQ cZ) A (some (.int (nI f))) (rfW bd cI cZ run fm cm wr mk wo fc cc)) (F0 m 2 ls []) := by
    intro n
    induction n with
    | zero =>
      intro i H locs ls hi hG hl
      obtain rfl : i = f := by omega
      by_cases h23 : i = 23
      · refine lv_iload_n hx hb dX3_unused_2 rfl (lv_at hl 0 rfl) ?_
        refine lv_bipush (v := nI 23) hx hb dX3_unused_3 (by decide) ?_
        refine lv_icmp_ge (tgt := 22) hx hb dX3_unused_5 rfl (fun _ => ?_) (fun hh => absurd (nI_le (by omega) (by omega)) hh)
        refine lv_iload_n hx hb dX3_unused_22 rfl (lv_at hl 0 rfl) ?_
        exact g_iret hx hb hr hlk hG dX3_unused_23
      · refine lv_iload_n hx hb dX3_unused_2 rfl (lv_at hl 0 rfl) ?_
        refine lv_bipush (v := nI 23) hx hb dX3_unused_3 (by decide) ?_
        refine lv_icmp_ge (tgt := 22) hx hb dX3_unused_5 rfl (fun hh => absurd hh (nI_ge (by omega) (by decide))) (fun _ => ?_)
        refine lv_aload_n hx hb dX3_unused_8 rfl (lv_at hl 1 rfl) ?_
        refine lv_iload_n hx hb dX3_unused_9 rfl (lv_at hl 0 rfl) ?_
        refine g_callV (As := [.int (nI i)]) (rest := []) (fs := [.ref (bd 1), .ref (bd 2), .ref (bd 3), .ref (bd 4), .ref (bd 5), .ref (bd 6), .int fc, .int cc]) (rm_leads (by omega) hB) hx hb hml hown hts hN hG t_268 t_270 s_20 t_4 t_271 nm_X3_leads ⟨by decide, by decide⟩ rf_0 rfl hl.1 (Nat.le_of_ble_eq_true rfl) dX3_unused_10 ⟨Nat.zero_le _, Nat.zero_le _⟩ (fun H locs hG => ?_)
        refine W.eq (g2 := F0 m 13 ls [.int (nI (ldN fm i))]) rfl ?_
        refine lv_if_le (tgt := 22) hx hb dX3_unused_13 rfl (fun _ => ?_) (fun hh => absurd (nI_le0 (h.resolve_left h23)) hh)
        refine lv_iload_n hx hb dX3_unused_22 rfl (lv_at hl 0 rfl) ?_
        exact g_iret hx hb hr hlk hG dX3_unused_23
    | succ n ih =>
      intro i H locs ls hi hG hl
      have hl3 := ldN_le fm i
      refine lv_iload_n hx hb dX3_unused_2 rfl (lv_at hl 0 rfl) ?_
      refine lv_bipush (v := nI 23) hx hb dX3_unused_3 (by decide) ?_
      refine lv_icmp_ge (tgt := 22) hx hb dX3_unused_5 rfl (fun hh => absurd hh (nI_ge (by omega) (by decide))) (fun _ => ?_)
      refine lv_aload_n hx hb dX3_unused_8 rfl (lv_at hl 1 rfl) ?_
      refine lv_iload_n hx hb dX3_unused_9 rfl (lv_at hl 0 rfl) ?_
      refine g_callV (As := [.int (nI i)]) (rest := []) (fs := [.ref (bd 1), .ref (bd 2), .ref (bd 3), .ref (bd 4), .ref (bd 5), .ref (bd 6), .int fc, .int cc]) (rm_leads (by omega) hB) hx hb hml hown hts hN hG t_268 t_270 s_20 t_4 t_271 nm_X3_leads ⟨by decide, by decide⟩ rf_0 rfl hl.1 (Nat.le_of_ble_eq_true rfl) dX3_unused_10 ⟨Nat.zero_le _, Nat.zero_le _⟩ (fun H locs hG => ?_)
      refine W.eq (g2 := F0 m 13 ls [.int (nI (ldN fm i))]) rfl ?_
      refine lv_if_le (tgt := 22) hx hb dX3_unused_13 rfl (fun hh => absurd hh (nI_gt0 (hm i (by omega)) (by omega))) (fun _ => ?_)
      refine lv_iinc (k := 0) (v := nI (i + 1)) (lv' := [(1, .int (nI (i + 1))), (0, .ref (bd 0))]) hx hb dX3_unused_16 hl rfl (nI_1 i) (by decide) rfl (fun ls hl => ?_)
      refine lv_goto (tgt := 2) hx hb dX3_unused_19 rfl ?_
      exact ih (i + 1) _ _ _ (by omega) hG (lv_sub hl [0, 1] rfl)
  exact loop f 0 _ _ _ (by omega) hG (lv_sub hl [0, 1] rfl)
set_option maxHeartbeats 4000000 in
set_option maxRecDepth 100000 in
theorem rm_more_tt {j k : Nat} (hj : j < 5) (hk : k < 64) (hB : ∀ i, fm i ≤ 24) (h4 : anB (pgS fm j) (k / 4 * 4) 4 = true) (h16 : anB (pgS fm j) (k / 16 * 16) 16 = true) : gM l yX3_more cX3_more 3 (some .int) 1 25 D cls (fpT cI cQ cZ) A (rfW bd cI cZ run fm cm wr mk wo fc cc) [.ref (bd 0), .int (nI j), .int (nI k)] (some (.int (nI 0))) (rfW bd cI cZ run fm cm wr mk wo fc cc) := by
  refine gM_of (by decide) (Nat.le_of_ble_eq_true rfl) ?_
  intro p e s m args below meth c ls hx hb hml hown hts hN hr hlk hl hG
  have hown : s.vm.findClass RX3 = some m.cls := hown
  have hl : lv_has ls 3 [(0, .ref (bd 0)), (1, .int (nI j)), (2, .int (nI k))] := hl
  refine lv_aload_n hx hb dX3_more_0 rfl (lv_at hl 0 rfl) ?_
  refine lv_iload_n hx hb dX3_more_1 rfl (lv_at hl 1 rfl) ?_
  refine lv_iload_n hx hb dX3_more_2 rfl (lv_at hl 2 rfl) ?_
  refine lv_iconst (v := nI 4) hx hb dX3_more_3 (by decide) ?_
  refine lv_idiv hx hb dX3_more_4 (by decide) ?_
  refine g_top (y := nI (k / 4)) (pk_div (d := 4) (Nat.lt_trans hk (by decide)) (by decide) (by decide)) ?_
  refine lv_iconst (v := nI 4) hx hb dX3_more_5 (by decide) ?_
  refine lv_imul hx hb dX3_more_6 ?_
  refine g_top (y := nI (k / 4 * 4)) (pk_mul _ 4) ?_
  refine lv_iconst (v := nI 4) hx hb dX3_more_7 (by decide) ?_
  refine g_callV (As := [.int (nI j), .int (nI (k / 4 * 4)), .int (nI 4)]) (rest := []) (fs := [.ref (bd 1), .ref (bd 2), .ref (bd 3), .ref (bd 4), .ref (bd 5), .ref (bd 6), .int fc, .int cc]) (rm_some (a := k / 4 * 4) (w := 4) hj (by omega) hB) hx hb hml hown hts hN hG t_276 t_278 s_22 t_4 t_279 nm_X3_some ⟨by decide, by decide⟩ rf_0 rfl hl.1 (Nat.le_of_ble_eq_true rfl) dX3_more_8 ⟨Nat.zero_le _, Nat.zero_le _⟩ (fun H locs hG => ?_)
  refine W.eq (g2 := F0 m 11 ls [.int (bI (anB (pgS fm j) (k / 4 * 4) 4))]) rfl ?_
  refine g_top (y := 1) (by rw [h4]; rfl) ?_
  refine lv_if_eq (tgt := 18) hx hb dX3_more_11 rfl (fun hh => absurd hh (by decide)) (fun _ => ?_)
  refine lv_iconst (v := nI 0) hx hb dX3_more_14 (by decide) ?_
  refine lv_goto (tgt := 19) hx hb dX3_more_15 rfl ?_
  refine lv_aload_n hx hb dX3_more_19 rfl (lv_at hl 0 rfl) ?_
  refine lv_iload_n hx hb dX3_more_20 rfl (lv_at hl 1 rfl) ?_
  refine lv_iload_n hx hb dX3_more_21 rfl (lv_at hl 2 rfl) ?_
  refine lv_bipush (v := nI 16) hx hb dX3_more_22 (by decide) ?_
  refine lv_idiv hx hb dX3_more_24 (by decide) ?_
  refine g_top (y := nI (k / 16)) (pk_div (d := 16) (Nat.lt_trans hk (by decide)) (by decide) (by decide)) ?_
  refine lv_bipush (v := nI 16) hx hb dX3_more_25 (by decide) ?_
  refine lv_imul hx hb dX3_more_27 ?_
  refine g_top (y := nI (k / 16 * 16)) (pk_mul _ 16) ?_
  refine lv_bipush (v := nI 16) hx hb dX3_more_28 (by decide) ?_
  refine g_callV (As := [.int (nI j), .int (nI (k / 16 * 16)), .int (nI 16)]) (rest := [.int (nI 0)]) (fs := [.ref (bd 1), .ref (bd 2), .ref (bd 3), .ref (bd 4), .ref (bd 5), .ref (bd 6), .int fc, .int cc]) (rm_some (a := k / 16 * 16) (w := 16) hj (by omega) hB) hx hb hml hown hts hN hG t_276 t_278 s_22 t_4 t_279 nm_X3_some ⟨by decide, by decide⟩ rf_0 rfl hl.1 (Nat.le_of_ble_eq_true rfl) dX3_more_30 ⟨Nat.zero_le _, Nat.zero_le _⟩ (fun H locs hG => ?_)
  refine W.eq (g2 := F0 m 33 ls [.int (bI (anB (pgS fm j) (k / 16 * 16) 16)), .int (nI 0)]) rfl ?_
  refine g_top (y := 1) (by rw [h16]; rfl) ?_
  refine lv_if_eq (tgt := 40) hx hb dX3_more_33 rfl (fun hh => absurd hh (by decide)) (fun _ => ?_)
  refine lv_iconst (v := nI 0) hx hb dX3_more_36 (by decide) ?_
  refine lv_goto (tgt := 41) hx hb dX3_more_37 rfl ?_
  refine lv_iadd hx hb dX3_more_41 ?_
  refine g_top (y := nI 0) (by decide) ?_
  exact g_iret hx hb hr hlk hG dX3_more_42
set_option maxHeartbeats 4000000 in
set_option maxRecDepth 100000 in
theorem rm_more_tf {j k : Nat} (hj : j < 5) (hk : k < 64) (hB : ∀ i, fm i ≤ 24) (h4 : anB (pgS fm j) (k / 4 * 4) 4 = true) (h16 : anB (pgS fm j) (k / 16 * 16) 16 = false) : gM l yX3_more cX3_more 3 (some .int) 1 25 D cls (fpT cI cQ cZ) A (rfW bd cI cZ run fm cm wr mk wo fc cc) [.ref (bd 0), .int (nI j), .int (nI k)] (some (.int (nI 1))) (rfW bd cI cZ run fm cm wr mk wo fc cc) := by
  refine gM_of (by decide) (Nat.le_of_ble_eq_true rfl) ?_
  intro p e s m args below meth c ls hx hb hml hown hts hN hr hlk hl hG
  have hown : s.vm.findClass RX3 = some m.cls := hown
  have hl : lv_has ls 3 [(0, .ref (bd 0)), (1, .int (nI j)), (2, .int (nI k))] := hl
  refine lv_aload_n hx hb dX3_more_0 rfl (lv_at hl 0 rfl) ?_
  refine lv_iload_n hx hb dX3_more_1 rfl (lv_at hl 1 rfl) ?_
  refine lv_iload_n hx hb dX3_more_2 rfl (lv_at hl 2 rfl) ?_
  refine lv_iconst (v := nI 4) hx hb dX3_more_3 (by decide) ?_
  refine lv_idiv hx hb dX3_more_4 (by decide) ?_
  refine g_top (y := nI (k / 4)) (pk_div (d := 4) (Nat.lt_trans hk (by decide)) (by decide) (by decide)) ?_
  refine lv_iconst (v := nI 4) hx hb dX3_more_5 (by decide) ?_
  refine lv_imul hx hb dX3_more_6 ?_
  refine g_top (y := nI (k / 4 * 4)) (pk_mul _ 4) ?_
  refine lv_iconst (v := nI 4) hx hb dX3_more_7 (by decide) ?_
  refine g_callV (As := [.int (nI j), .int (nI (k / 4 * 4)), .int (nI 4)]) (rest := []) (fs := [.ref (bd 1), .ref (bd 2), .ref (bd 3), .ref (bd 4), .ref (bd 5), .ref (bd 6), .int fc, .int cc]) (rm_some (a := k / 4 * 4) (w := 4) hj (by omega) hB) hx hb hml hown hts hN hG t_276 t_278 s_22 t_4 t_279 nm_X3_some ⟨by decide, by decide⟩ rf_0 rfl hl.1 (Nat.le_of_ble_eq_true rfl) dX3_more_8 ⟨Nat.zero_le _, Nat.zero_le _⟩ (fun H locs hG => ?_)
  refine W.eq (g2 := F0 m 11 ls [.int (bI (anB (pgS fm j) (k / 4 * 4) 4))]) rfl ?_
  refine g_top (y := 1) (by rw [h4]; rfl) ?_
  refine lv_if_eq (tgt := 18) hx hb dX3_more_11 rfl (fun hh => absurd hh (by decide)) (fun _ => ?_)
  refine lv_iconst (v := nI 0) hx hb dX3_more_14 (by decide) ?_
  refine lv_goto (tgt := 19) hx hb dX3_more_15 rfl ?_
  refine lv_aload_n hx hb dX3_more_19 rfl (lv_at hl 0 rfl) ?_
  refine lv_iload_n hx hb dX3_more_20 rfl (lv_at hl 1 rfl) ?_
  refine lv_iload_n hx hb dX3_more_21 rfl (lv_at hl 2 rfl) ?_
  refine lv_bipush (v := nI 16) hx hb dX3_more_22 (by decide) ?_
  refine lv_idiv hx hb dX3_more_24 (by decide) ?_
  refine g_top (y := nI (k / 16)) (pk_div (d := 16) (Nat.lt_trans hk (by decide)) (by decide) (by decide)) ?_
  refine lv_bipush (v := nI 16) hx hb dX3_more_25 (by decide) ?_
  refine lv_imul hx hb dX3_more_27 ?_
  refine g_top (y := nI (k / 16 * 16)) (pk_mul _ 16) ?_
  refine lv_bipush (v := nI 16) hx hb dX3_more_28 (by decide) ?_
  refine g_callV (As := [.int (nI j), .int (nI (k / 16 * 16)), .int (nI 16)]) (rest := [.int (nI 0)]) (fs := [.ref (bd 1), .ref (bd 2), .ref (bd 3), .ref (bd 4), .ref (bd 5), .ref (bd 6), .int fc, .int cc]) (rm_some (a := k / 16 * 16) (w := 16) hj (by omega) hB) hx hb hml hown hts hN hG t_276 t_278 s_22 t_4 t_279 nm_X3_some ⟨by decide, by decide⟩ rf_0 rfl hl.1 (Nat.le_of_ble_eq_true rfl) dX3_more_30 ⟨Nat.zero_le _, Nat.zero_le _⟩ (fun H locs hG => ?_)
  refine W.eq (g2 := F0 m 33 ls [.int (bI (anB (pgS fm j) (k / 16 * 16) 16)), .int (nI 0)]) rfl ?_
  refine g_top (y := 0) (by rw [h16]; rfl) ?_
  refine lv_if_eq (tgt := 40) hx hb dX3_more_33 rfl (fun _ => ?_) (fun hh => absurd (rfl) hh)
  refine lv_iconst (v := nI 1) hx hb dX3_more_40 (by decide) ?_
  refine lv_iadd hx hb dX3_more_41 ?_
  refine g_top (y := nI 1) (by decide) ?_
  exact g_iret hx hb hr hlk hG dX3_more_42
set_option maxHeartbeats 4000000 in
set_option maxRecDepth 100000 in
theorem rm_more_ft {j k : Nat} (hj : j < 5) (hk : k < 64) (hB : ∀ i, fm i ≤ 24) (h4 : anB (pgS fm j) (k / 4 * 4) 4 = false) (h16 : anB (pgS fm j) (k / 16 * 16) 16 = true) : gM l yX3_more cX3_more 3 (some .int) 1 25 D cls (fpT cI cQ cZ) A (rfW bd cI cZ run fm cm wr mk wo fc cc) [.ref (bd 0), .int (nI j), .int (nI k)] (some (.int (nI 1))) (rfW bd cI cZ run fm cm wr mk wo fc cc) := by
  refine gM_of (by decide) (Nat.le_of_ble_eq_true rfl) ?_
  intro p e s m args below meth c ls hx hb hml hown hts hN hr hlk hl hG
  have hown : s.vm.findClass RX3 = some m.cls := hown
  have hl : lv_has ls 3 [(0, .ref (bd 0)), (1, .int (nI j)), (2, .int (nI k))] := hl
  refine lv_aload_n hx hb dX3_more_0 rfl (lv_at hl 0 rfl) ?_
  refine lv_iload_n hx hb dX3_more_1 rfl (lv_at hl 1 rfl) ?_
  refine lv_iload_n hx hb dX3_more_2 rfl (lv_at hl 2 rfl) ?_
  refine lv_iconst (v := nI 4) hx hb dX3_more_3 (by decide) ?_
  refine lv_idiv hx hb dX3_more_4 (by decide) ?_
  refine g_top (y := nI (k / 4)) (pk_div (d := 4) (Nat.lt_trans hk (by decide)) (by decide) (by decide)) ?_
  refine lv_iconst (v := nI 4) hx hb dX3_more_5 (by decide) ?_
  refine lv_imul hx hb dX3_more_6 ?_
  refine g_top (y := nI (k / 4 * 4)) (pk_mul _ 4) ?_
  refine lv_iconst (v := nI 4) hx hb dX3_more_7 (by decide) ?_
  refine g_callV (As := [.int (nI j), .int (nI (k / 4 * 4)), .int (nI 4)]) (rest := []) (fs := [.ref (bd 1), .ref (bd 2), .ref (bd 3), .ref (bd 4), .ref (bd 5), .ref (bd 6), .int fc, .int cc]) (rm_some (a := k / 4 * 4) (w := 4) hj (by omega) hB) hx hb hml hown hts hN hG t_276 t_278 s_22 t_4 t_279 nm_X3_some ⟨by decide, by decide⟩ rf_0 rfl hl.1 (Nat.le_of_ble_eq_true rfl) dX3_more_8 ⟨Nat.zero_le _, Nat.zero_le _⟩ (fun H locs hG => ?_)
  refine W.eq (g2 := F0 m 11 ls [.int (bI (anB (pgS fm j) (k / 4 * 4) 4))]) rfl ?_
  refine g_top (y := 0) (by rw [h4]; rfl) ?_
  refine lv_if_eq (tgt := 18) hx hb dX3_more_11 rfl (fun _ => ?_) (fun hh => absurd (rfl) hh)
  refine lv_iconst (v := nI 1) hx hb dX3_more_18 (by decide) ?_
  refine lv_aload_n hx hb dX3_more_19 rfl (lv_at hl 0 rfl) ?_
  refine lv_iload_n hx hb dX3_more_20 rfl (lv_at hl 1 rfl) ?_
  refine lv_iload_n hx hb dX3_more_21 rfl (lv_at hl 2 rfl) ?_
  refine lv_bipush (v := nI 16) hx hb dX3_more_22 (by decide) ?_
  refine lv_idiv hx hb dX3_more_24 (by decide) ?_
  refine g_top (y := nI (k / 16)) (pk_div (d := 16) (Nat.lt_trans hk (by decide)) (by decide) (by decide)) ?_
  refine lv_bipush (v := nI 16) hx hb dX3_more_25 (by decide) ?_
  refine lv_imul hx hb dX3_more_27 ?_
  refine g_top (y := nI (k / 16 * 16)) (pk_mul _ 16) ?_
  refine lv_bipush (v := nI 16) hx hb dX3_more_28 (by decide) ?_
  refine g_callV (As := [.int (nI j), .int (nI (k / 16 * 16)), .int (nI 16)]) (rest := [.int (nI 1)]) (fs := [.ref (bd 1), .ref (bd 2), .ref (bd 3), .ref (bd 4), .ref (bd 5), .ref (bd 6), .int fc, .int cc]) (rm_some (a := k / 16 * 16) (w := 16) hj (by omega) hB) hx hb hml hown hts hN hG t_276 t_278 s_22 t_4 t_279 nm_X3_some ⟨by decide, by decide⟩ rf_0 rfl hl.1 (Nat.le_of_ble_eq_true rfl) dX3_more_30 ⟨Nat.zero_le _, Nat.zero_le _⟩ (fun H locs hG => ?_)
  refine W.eq (g2 := F0 m 33 ls [.int (bI (anB (pgS fm j) (k / 16 * 16) 16)), .int (nI 1)]) rfl ?_
  refine g_top (y := 1) (by rw [h16]; rfl) ?_
  refine lv_if_eq (tgt := 40) hx hb dX3_more_33 rfl (fun hh => absurd hh (by decide)) (fun _ => ?_)
  refine lv_iconst (v := nI 0) hx hb dX3_more_36 (by decide) ?_
  refine lv_goto (tgt := 41) hx hb dX3_more_37 rfl ?_
  refine lv_iadd hx hb dX3_more_41 ?_
  refine g_top (y := nI 1) (by decide) ?_
  exact g_iret hx hb hr hlk hG dX3_more_42
set_option maxHeartbeats 4000000 in
set_option maxRecDepth 100000 in
theorem rm_more_ff {j k : Nat} (hj : j < 5) (hk : k < 64) (hB : ∀ i, fm i ≤ 24) (h4 : anB (pgS fm j) (k / 4 * 4) 4 = false) (h16 : anB (pgS fm j) (k / 16 * 16) 16 = false) : gM l yX3_more cX3_more 3 (some .int) 1 25 D cls (fpT cI cQ cZ) A (rfW bd cI cZ run fm cm wr mk wo fc cc) [.ref (bd 0), .int (nI j), .int (nI k)] (some (.int (nI 2))) (rfW bd cI cZ run fm cm wr mk wo fc cc) := by
  refine gM_of (by decide) (Nat.le_of_ble_eq_true rfl) ?_
  intro p e s m args below meth c ls hx hb hml hown hts hN hr hlk hl hG
  have hown : s.vm.findClass RX3 = some m.cls := hown
  have hl : lv_has ls 3 [(0, .ref (bd 0)), (1, .int (nI j)), (2, .int (nI k))] := hl
  refine lv_aload_n hx hb dX3_more_0 rfl (lv_at hl 0 rfl) ?_
  refine lv_iload_n hx hb dX3_more_1 rfl (lv_at hl 1 rfl) ?_
  refine lv_iload_n hx hb dX3_more_2 rfl (lv_at hl 2 rfl) ?_
  refine lv_iconst (v := nI 4) hx hb dX3_more_3 (by decide) ?_
  refine lv_idiv hx hb dX3_more_4 (by decide) ?_
  refine g_top (y := nI (k / 4)) (pk_div (d := 4) (Nat.lt_trans hk (by decide)) (by decide) (by decide)) ?_
  refine lv_iconst (v := nI 4) hx hb dX3_more_5 (by decide) ?_
  refine lv_imul hx hb dX3_more_6 ?_
  refine g_top (y := nI (k / 4 * 4)) (pk_mul _ 4) ?_
  refine lv_iconst (v := nI 4) hx hb dX3_more_7 (by decide) ?_
  refine g_callV (As := [.int (nI j), .int (nI (k / 4 * 4)), .int (nI 4)]) (rest := []) (fs := [.ref (bd 1), .ref (bd 2), .ref (bd 3), .ref (bd 4), .ref (bd 5), .ref (bd 6), .int fc, .int cc]) (rm_some (a := k / 4 * 4) (w := 4) hj (by omega) hB) hx hb hml hown hts hN hG t_276 t_278 s_22 t_4 t_279 nm_X3_some ⟨by decide, by decide⟩ rf_0 rfl hl.1 (Nat.le_of_ble_eq_true rfl) dX3_more_8 ⟨Nat.zero_le _, Nat.zero_le _⟩ (fun H locs hG => ?_)
  refine W.eq (g2 := F0 m 11 ls [.int (bI (anB (pgS fm j) (k / 4 * 4) 4))]) rfl ?_
  refine g_top (y := 0) (by rw [h4]; rfl) ?_
  refine lv_if_eq (tgt := 18) hx hb dX3_more_11 rfl (fun _ => ?_) (fun hh => absurd (rfl) hh)
  refine lv_iconst (v := nI 1) hx hb dX3_more_18 (by decide) ?_
  refine lv_aload_n hx hb dX3_more_19 rfl (lv_at hl 0 rfl) ?_
  refine lv_iload_n hx hb dX3_more_20 rfl (lv_at hl 1 rfl) ?_
  refine lv_iload_n hx hb dX3_more_21 rfl (lv_at hl 2 rfl) ?_
  refine lv_bipush (v := nI 16) hx hb dX3_more_22 (by decide) ?_
  refine lv_idiv hx hb dX3_more_24 (by decide) ?_
  refine g_top (y := nI (k / 16)) (pk_div (d := 16) (Nat.lt_trans hk (by decide)) (by decide) (by decide)) ?_
  refine lv_bipush (v := nI 16) hx hb dX3_more_25 (by decide) ?_
  refine lv_imul hx hb dX3_more_27 ?_
  refine g_top (y := nI (k / 16 * 16)) (pk_mul _ 16) ?_
  refine lv_bipush (v := nI 16) hx hb dX3_more_28 (by decide) ?_
  refine g_callV (As := [.int (nI j), .int (nI (k / 16 * 16)), .int (nI 16)]) (rest := [.int (nI 1)]) (fs := [.ref (bd 1), .ref (bd 2), .ref (bd 3), .ref (bd 4), .ref (bd 5), .ref (bd 6), .int fc, .int cc]) (rm_some (a := k / 16 * 16) (w := 16) hj (by omega) hB) hx hb hml hown hts hN hG t_276 t_278 s_22 t_4 t_279 nm_X3_some ⟨by decide, by decide⟩ rf_0 rfl hl.1 (Nat.le_of_ble_eq_true rfl) dX3_more_30 ⟨Nat.zero_le _, Nat.zero_le _⟩ (fun H locs hG => ?_)
  refine W.eq (g2 := F0 m 33 ls [.int (bI (anB (pgS fm j) (k / 16 * 16) 16)), .int (nI 1)]) rfl ?_
  refine g_top (y := 0) (by rw [h16]; rfl) ?_
  refine lv_if_eq (tgt := 40) hx hb dX3_more_33 rfl (fun _ => ?_) (fun hh => absurd (rfl) hh)
  refine lv_iconst (v := nI 1) hx hb dX3_more_40 (by decide) ?_
  refine lv_iadd hx hb dX3_more_41 ?_
  refine g_top (y := nI 2) (by decide) ?_
  exact g_iret hx hb hr hlk hG dX3_more_42
set_option maxHeartbeats 4000000 in
set_option maxRecDepth 100000 in
theorem rm_more {j k : Nat} (hj : j < 5) (hk : k < 64) (hB : ∀ i, fm i ≤ 24)  : gM l yX3_more cX3_more 3 (some .int) 1 25 D cls (fpT cI cQ cZ) A (rfW bd cI cZ run fm cm wr mk wo fc cc) [.ref (bd 0), .int (nI j), .int (nI k)] (some (.int (nI (mrN (pgS fm j) k)))) (rfW bd cI cZ run fm cm wr mk wo fc cc) := by
  cases h4 : anB (pgS fm j) (k / 4 * 4) 4
  · cases h16 : anB (pgS fm j) (k / 16 * 16) 16
    · have e : mrN (pgS fm j) k = 2 := by simp [mrN, h4, h16]
      rw [e]; exact rm_more_ff hj hk hB h4 h16
    · have e : mrN (pgS fm j) k = 1 := by simp [mrN, h4, h16]
      rw [e]; exact rm_more_ft hj hk hB h4 h16
  · cases h16 : anB (pgS fm j) (k / 16 * 16) 16
    · have e : mrN (pgS fm j) k = 1 := by simp [mrN, h4, h16]
      rw [e]; exact rm_more_tf hj hk hB h4 h16
    · have e : mrN (pgS fm j) k = 0 := by simp [mrN, h4, h16]
      rw [e]; exact rm_more_tt hj hk hB h4 h16
set_option maxHeartbeats 4000000 in
set_option maxRecDepth 100000 in
theorem rm_idle {j : Nat} (hj : j ≤ 5) (h : j = 5 ∨ run j = false) (hm : ∀ i, i < j → run i = true) : gM l yX3_idle cX3_idle 2 (some .int) 0 0 D cls (fpT cI cQ cZ) A (rfW bd cI cZ run fm cm wr mk wo fc cc) [.ref (bd 0)] (some (.int (nI j))) (rfW bd cI cZ run fm cm wr mk wo fc cc) := by
  refine gM_of (by decide) (Nat.le_of_ble_eq_true rfl) ?_
  intro p e s m args below meth c ls hx hb hml hown hts hN hr hlk hl hG
  have hown : s.vm.findClass RX3 = some m.cls := hown
  have hl : lv_has ls 2 [(0, .ref (bd 0))] := hl
  refine lv_iconst (v := nI 0) hx hb dX3_idle_0 (by decide) ?_
  refine lv_istore_n (lv' := [(1, .int (nI 0)), (0, .ref (bd 0))]) hx hb dX3_idle_1 rfl hl (by decide) rfl (fun ls hl => ?_)
  have loop : ∀ (n i : Nat) (ls : Array Slot), i + n = j → lv_has ls 2 [(1, .int (nI i)), (0, .ref (bd 0))] → W p l e (gR 0 0) s m args below meth c s.heap [] 0 0 (gQ below args s D cls (fpT cI cQ cZ) A (some (.int (nI j))) (rfW bd cI cZ run fm cm wr mk wo fc cc)) (F0 m 2 ls []) := by
    intro n
    induction n with
    | zero =>
      intro i ls hi hl
      obtain rfl : i = j := by omega
      by_cases h5 : i = 5
      · refine lv_iload_n hx hb dX3_idle_2 rfl (lv_at hl 0 rfl) ?_
        refine lv_iconst (v := nI 5) hx hb dX3_idle_3 (by decide) ?_
        refine lv_icmp_ge (tgt := 22) hx hb dX3_idle_4 rfl (fun _ => ?_) (fun hh => absurd (nI_le (by omega) (by omega)) hh)
        refine lv_iload_n hx hb dX3_idle_22 rfl (lv_at hl 0 rfl) ?_
        exact g_iret hx hb hr hlk hG dX3_idle_23
      · refine lv_iload_n hx hb dX3_idle_2 rfl (lv_at hl 0 rfl) ?_
        refine lv_iconst (v := nI 5) hx hb dX3_idle_3 (by decide) ?_
        refine lv_icmp_ge (tgt := 22) hx hb dX3_idle_4 rfl (fun hh => absurd hh (nI_ge (by omega) (by decide))) (fun _ => ?_)
        refine lv_aload_n hx hb dX3_idle_7 rfl (lv_at hl 1 rfl) ?_
        refine g_get (k := 0) (v := .ref (bd 1)) (C := RX3) (ref := RX3) (fs := [.ref (bd 1), .ref (bd 2), .ref (bd 3), .ref (bd 4), .ref (bd 5), .ref (bd 6), .int fc, .int cc]) hx hb hown hts hG gX3 rfl rf_0 (by decide) t_238 rfl rfl dX3_idle_8 ?_
        refine lv_iload_n hx hb dX3_idle_11 rfl (lv_at hl 0 rfl) ?_
        refine g_zald (i := i) (t0 := 2) hx hb hG rf_1 rfl ((by omega)) (by decide) dX3_idle_12 ?_
        refine g_top (y := 0) (by rw [h.resolve_left h5]; rfl) ?_
        refine lv_if_eq (tgt := 22) hx hb dX3_idle_13 rfl (fun _ => ?_) (fun hh => absurd (rfl) hh)
        refine lv_iload_n hx hb dX3_idle_22 rfl (lv_at hl 0 rfl) ?_
        exact g_iret hx hb hr hlk hG dX3_idle_23
    | succ n ih =>
      intro i ls hi hl
      refine lv_iload_n hx hb dX3_idle_2 rfl (lv_at hl 0 rfl) ?_
      refine lv_iconst (v := nI 5) hx hb dX3_idle_3 (by decide) ?_
      refine lv_icmp_ge (tgt := 22) hx hb dX3_idle_4 rfl (fun hh => absurd hh (nI_ge (by omega) (by decide))) (fun _ => ?_)
      refine lv_aload_n hx hb dX3_idle_7 rfl (lv_at hl 1 rfl) ?_
      refine g_get (k := 0) (v := .ref (bd 1)) (C := RX3) (ref := RX3) (fs := [.ref (bd 1), .ref (bd 2), .ref (bd 3), .ref (bd 4), .ref (bd 5), .ref (bd 6), .int fc, .int cc]) hx hb hown hts hG gX3 rfl rf_0 (by decide) t_238 rfl rfl dX3_idle_8 ?_
      refine lv_iload_n hx hb dX3_idle_11 rfl (lv_at hl 0 rfl) ?_
      refine g_zald (i := i) (t0 := 2) hx hb hG rf_1 rfl ((by omega)) (by decide) dX3_idle_12 ?_
      refine g_top (y := 1) (by rw [hm i (by omega)]; rfl) ?_
      refine lv_if_eq (tgt := 22) hx hb dX3_idle_13 rfl (fun hh => absurd hh (by decide)) (fun _ => ?_)
      refine lv_iinc (k := 0) (v := nI (i + 1)) (lv' := [(1, .int (nI (i + 1))), (0, .ref (bd 0))]) hx hb dX3_idle_16 hl rfl (nI_1 i) (by decide) rfl (fun ls hl => ?_)
      refine lv_goto (tgt := 2) hx hb dX3_idle_19 rfl ?_
      exact ih (i + 1) _ (by omega) (lv_sub hl [0, 1] rfl)
  exact loop j 0 _ (by omega) (lv_sub hl [0, 1] rfl)
set_option maxHeartbeats 4000000 in
set_option maxRecDepth 100000 in
theorem rm_clear {k : Nat} (hk : k < 320) : gM l yX3_clear cX3_clear 2 none 0 0 D cls (fpT cI cQ cZ) A (rfW bd cI cZ run fm cm wr mk wo fc cc) [.ref (bd 0), .int (nI k)] none (rfW bd cI cZ run (up1 fm k 0) (up1 cm k false) (up1 wr k false) (up1 mk k false) wo fc cc) := by
  refine gM_of (by decide) (Nat.le_of_ble_eq_true rfl) ?_
  intro p e s m args below meth c ls hx hb hml hown hts hN hr hlk hl hG
  have hown : s.vm.findClass RX3 = some m.cls := hown
  have hl : lv_has ls 2 [(0, .ref (bd 0)), (1, .int (nI k))] := hl
  refine lv_aload_n hx hb dX3_clear_0 rfl (lv_at hl 0 rfl) ?_
  refine g_get (k := 1) (v := .ref (bd 2)) (C := RX3) (ref := RX3) (fs := [.ref (bd 1), .ref (bd 2), .ref (bd 3), .ref (bd 4), .ref (bd 5), .ref (bd 6), .int fc, .int cc]) hx hb hown hts hG gX3 rfl rf_0 (by decide) t_239 rfl rfl dX3_clear_1 ?_
  refine lv_iload_n hx hb dX3_clear_4 rfl (lv_at hl 1 rfl) ?_
  refine lv_iconst (v := nI 0) hx hb dX3_clear_5 (by decide) ?_
  refine g_iast (i := k) (x := nI 0) (t0 := 0) (ws' := rfW bd cI cZ run (up1 fm k 0) cm wr mk wo fc cc) hx hb hG rf_2 rfl (hk) (by decide) (rf_s2 k 0) dX3_clear_6 (fun H locs hG => ?_)
  refine lv_aload_n hx hb dX3_clear_7 rfl (lv_at hl 0 rfl) ?_
  refine g_get (k := 2) (v := .ref (bd 3)) (C := RX3) (ref := RX3) (fs := [.ref (bd 1), .ref (bd 2), .ref (bd 3), .ref (bd 4), .ref (bd 5), .ref (bd 6), .int fc, .int cc]) hx hb hown hts hG gX3 rfl rf_0 (by decide) t_240 rfl rfl dX3_clear_8 ?_
  refine lv_iload_n hx hb dX3_clear_11 rfl (lv_at hl 1 rfl) ?_
  refine lv_iconst (v := bI false) hx hb dX3_clear_12 (by decide) ?_
  refine g_zast (i := k) (x := bI false) (t0 := 2) (ws' := rfW bd cI cZ run (up1 fm k 0) (up1 cm k false) wr mk wo fc cc) hx hb hG rf_3 rfl (hk) (by decide) (nar_bI false) (rf_s3 k false) dX3_clear_13 (fun H locs hG => ?_)
  refine lv_aload_n hx hb dX3_clear_14 rfl (lv_at hl 0 rfl) ?_
  refine g_get (k := 3) (v := .ref (bd 4)) (C := RX3) (ref := RX3) (fs := [.ref (bd 1), .ref (bd 2), .ref (bd 3), .ref (bd 4), .ref (bd 5), .ref (bd 6), .int fc, .int cc]) hx hb hown hts hG gX3 rfl rf_0 (by decide) t_241 rfl rfl dX3_clear_15 ?_
  refine lv_iload_n hx hb dX3_clear_18 rfl (lv_at hl 1 rfl) ?_
  refine lv_iconst (v := bI false) hx hb dX3_clear_19 (by decide) ?_
  refine g_zast (i := k) (x := bI false) (t0 := 2) (ws' := rfW bd cI cZ run (up1 fm k 0) (up1 cm k false) (up1 wr k false) mk wo fc cc) hx hb hG rf_4 rfl (hk) (by decide) (nar_bI false) (rf_s4 k false) dX3_clear_20 (fun H locs hG => ?_)
  refine lv_aload_n hx hb dX3_clear_21 rfl (lv_at hl 0 rfl) ?_
  refine g_get (k := 4) (v := .ref (bd 5)) (C := RX3) (ref := RX3) (fs := [.ref (bd 1), .ref (bd 2), .ref (bd 3), .ref (bd 4), .ref (bd 5), .ref (bd 6), .int fc, .int cc]) hx hb hown hts hG gX3 rfl rf_0 (by decide) t_242 rfl rfl dX3_clear_22 ?_
  refine lv_iload_n hx hb dX3_clear_25 rfl (lv_at hl 1 rfl) ?_
  refine lv_iconst (v := bI false) hx hb dX3_clear_26 (by decide) ?_
  refine g_zast (i := k) (x := bI false) (t0 := 2) (ws' := rfW bd cI cZ run (up1 fm k 0) (up1 cm k false) (up1 wr k false) (up1 mk k false) wo fc cc) hx hb hG rf_5 rfl (hk) (by decide) (nar_bI false) (rf_s5 k false) dX3_clear_27 (fun H locs hG => ?_)
  exact g_vret hx hb hr hlk hG dX3_clear_28
set_option maxHeartbeats 4000000 in
set_option maxRecDepth 100000 in
theorem rm_bar_1 {x y : Int32} (h : ¬ rn run x) : gM l yX3_bar cX3_bar 3 (some .int) 1 21 D cls (fpT cI cQ cZ) A (rfW bd cI cZ run fm cm wr mk wo fc cc) [.ref (bd 0), .int x, .int y] (some (.int (-1))) (rfW bd cI cZ run fm cm wr mk wo fc cc) := by
  refine gM_of (by decide) (Nat.le_of_ble_eq_true rfl) ?_
  intro p e s m args below meth c ls hx hb hml hown hts hN hr hlk hl hG
  have hown : s.vm.findClass RX3 = some m.cls := hown
  have hl : lv_has ls 3 [(0, .ref (bd 0)), (1, .int x), (2, .int y)] := hl
  refine lv_aload_n hx hb dX3_bar_0 rfl (lv_at hl 0 rfl) ?_
  refine lv_iload_n hx hb dX3_bar_1 rfl (lv_at hl 1 rfl) ?_
  refine g_callV (As := [.int x]) (rest := []) (fs := [.ref (bd 1), .ref (bd 2), .ref (bd 3), .ref (bd 4), .ref (bd 5), .ref (bd 6), .int fc, .int cc]) (rm_away_n h) hx hb hml hown hts hN hG t_293 t_295 s_24 t_4 t_296 nm_X3_away ⟨by decide, by decide⟩ rf_0 rfl hl.1 (Nat.le_of_ble_eq_true rfl) dX3_bar_2 ⟨Nat.zero_le _, Nat.zero_le _⟩ (fun H locs hG => ?_)
  refine W.eq (g2 := F0 m 5 ls [.int 1]) rfl ?_
  refine lv_if_eq (tgt := 12) hx hb dX3_bar_5 rfl (fun hh => absurd hh (by decide)) (fun _ => ?_)
  refine lv_iconst (v := (-1)) hx hb dX3_bar_8 (by decide) ?_
  refine lv_goto (tgt := 44) hx hb dX3_bar_9 rfl ?_
  exact g_iret hx hb hr hlk hG dX3_bar_44
set_option maxHeartbeats 4000000 in
set_option maxRecDepth 100000 in
theorem rm_bar_2 {j : Nat} {y : Int32} (hj : j < 5) (h : run j = true) (h2 : ¬ pgI y) : gM l yX3_bar cX3_bar 3 (some .int) 1 21 D cls (fpT cI cQ cZ) A (rfW bd cI cZ run fm cm wr mk wo fc cc) [.ref (bd 0), .int (nI j), .int y] (some (.int (-2))) (rfW bd cI cZ run fm cm wr mk wo fc cc) := by
  refine gM_of (by decide) (Nat.le_of_ble_eq_true rfl) ?_
  intro p e s m args below meth c ls hx hb hml hown hts hN hr hlk hl hG
  have hown : s.vm.findClass RX3 = some m.cls := hown
  have hl : lv_has ls 3 [(0, .ref (bd 0)), (1, .int (nI j)), (2, .int y)] := hl
  refine lv_aload_n hx hb dX3_bar_0 rfl (lv_at hl 0 rfl) ?_
  refine lv_iload_n hx hb dX3_bar_1 rfl (lv_at hl 1 rfl) ?_
  refine g_callV (As := [.int (nI j)]) (rest := []) (fs := [.ref (bd 1), .ref (bd 2), .ref (bd 3), .ref (bd 4), .ref (bd 5), .ref (bd 6), .int fc, .int cc]) (rm_away_t hj h) hx hb hml hown hts hN hG t_293 t_295 s_24 t_4 t_296 nm_X3_away ⟨by decide, by decide⟩ rf_0 rfl hl.1 (Nat.le_of_ble_eq_true rfl) dX3_bar_2 ⟨Nat.zero_le _, Nat.zero_le _⟩ (fun H locs hG => ?_)
  refine W.eq (g2 := F0 m 5 ls [.int 0]) rfl ?_
  refine lv_if_eq (tgt := 12) hx hb dX3_bar_5 rfl (fun _ => ?_) (fun hh => absurd (rfl) hh)
  refine lv_iload_n hx hb dX3_bar_12 rfl (lv_at hl 2 rfl) ?_
  refine g_callS (As := [.int y]) (rest := []) (rm_isPage_n h2) hx hb hml hown hts hN hG t_309 t_310 t_4 t_311 nm_X3_isPage ⟨by decide, by decide⟩ hl.1 (Nat.le_of_ble_eq_true rfl) dX3_bar_13 ⟨Nat.zero_le _, Nat.zero_le _⟩ (fun H locs hG => ?_)
  refine W.eq (g2 := F0 m 16 ls [.int 0]) rfl ?_
  refine lv_if_ne (tgt := 24) hx hb dX3_bar_16 rfl (fun hh => absurd (rfl) hh) (fun _ => ?_)
  refine lv_bipush (v := (-2)) hx hb dX3_bar_19 (by decide) ?_
  refine lv_goto (tgt := 44) hx hb dX3_bar_21 rfl ?_
  exact g_iret hx hb hr hlk hG dX3_bar_44
set_option maxHeartbeats 4000000 in
set_option maxRecDepth 100000 in
theorem rm_bar_3 {j k : Nat} (hj : j < 5) (hk : k < 64) (h : run j = true) (h2 : fm (64 * j + k) = 0) : gM l yX3_bar cX3_bar 3 (some .int) 1 21 D cls (fpT cI cQ cZ) A (rfW bd cI cZ run fm cm wr mk wo fc cc) [.ref (bd 0), .int (nI j), .int (nI k)] (some (.int (-3))) (rfW bd cI cZ run fm cm wr mk wo fc cc) := by
  refine gM_of (by decide) (Nat.le_of_ble_eq_true rfl) ?_
  intro p e s m args below meth c ls hx hb hml hown hts hN hr hlk hl hG
  have hown : s.vm.findClass RX3 = some m.cls := hown
  have hl : lv_has ls 3 [(0, .ref (bd 0)), (1, .int (nI j)), (2, .int (nI k))] := hl
  refine lv_aload_n hx hb dX3_bar_0 rfl (lv_at hl 0 rfl) ?_
  refine lv_iload_n hx hb dX3_bar_1 rfl (lv_at hl 1 rfl) ?_
  refine g_callV (As := [.int (nI j)]) (rest := []) (fs := [.ref (bd 1), .ref (bd 2), .ref (bd 3), .ref (bd 4), .ref (bd 5), .ref (bd 6), .int fc, .int cc]) (rm_away_t hj h) hx hb hml hown hts hN hG t_293 t_295 s_24 t_4 t_296 nm_X3_away ⟨by decide, by decide⟩ rf_0 rfl hl.1 (Nat.le_of_ble_eq_true rfl) dX3_bar_2 ⟨Nat.zero_le _, Nat.zero_le _⟩ (fun H locs hG => ?_)
  refine W.eq (g2 := F0 m 5 ls [.int 0]) rfl ?_
  refine lv_if_eq (tgt := 12) hx hb dX3_bar_5 rfl (fun _ => ?_) (fun hh => absurd (rfl) hh)
  refine lv_iload_n hx hb dX3_bar_12 rfl (lv_at hl 2 rfl) ?_
  refine g_callS (As := [.int (nI k)]) (rest := []) (rm_isPage_t hk) hx hb hml hown hts hN hG t_309 t_310 t_4 t_311 nm_X3_isPage ⟨by decide, by decide⟩ hl.1 (Nat.le_of_ble_eq_true rfl) dX3_bar_13 ⟨Nat.zero_le _, Nat.zero_le _⟩ (fun H locs hG => ?_)
  refine W.eq (g2 := F0 m 16 ls [.int 1]) rfl ?_
  refine lv_if_ne (tgt := 24) hx hb dX3_bar_16 rfl (fun _ => ?_) (fun hh => absurd hh (by decide))
  refine lv_aload_n hx hb dX3_bar_24 rfl (lv_at hl 0 rfl) ?_
  refine g_get (k := 1) (v := .ref (bd 2)) (C := RX3) (ref := RX3) (fs := [.ref (bd 1), .ref (bd 2), .ref (bd 3), .ref (bd 4), .ref (bd 5), .ref (bd 6), .int fc, .int cc]) hx hb hown hts hG gX3 rfl rf_0 (by decide) t_239 rfl rfl dX3_bar_25 ?_
  refine lv_bipush (v := nI 64) hx hb dX3_bar_28 (by decide) ?_
  refine lv_iload_n hx hb dX3_bar_30 rfl (lv_at hl 1 rfl) ?_
  refine lv_imul hx hb dX3_bar_31 ?_
  refine g_top (y := nI (64 * j)) (pk_mul 64 j) ?_
  refine lv_iload_n hx hb dX3_bar_32 rfl (lv_at hl 2 rfl) ?_
  refine lv_iadd hx hb dX3_bar_33 ?_
  refine g_top (y := nI (64 * j + k)) (nI_add _ _) ?_
  refine g_iald (i := (64 * j + k)) (t0 := 0) hx hb hG rf_2 rfl ((by omega)) (by decide) dX3_bar_34 ?_
  refine lv_if_ne (tgt := 43) hx hb dX3_bar_35 rfl (fun hh => absurd (by rw [h2]; rfl) hh) (fun _ => ?_)
  refine lv_bipush (v := (-3)) hx hb dX3_bar_38 (by decide) ?_
  refine lv_goto (tgt := 44) hx hb dX3_bar_40 rfl ?_
  exact g_iret hx hb hr hlk hG dX3_bar_44
set_option maxHeartbeats 4000000 in
set_option maxRecDepth 100000 in
theorem rm_bar_0 {j k : Nat} (hj : j < 5) (hk : k < 64) (h : run j = true) (h2 : 0 < fm (64 * j + k)) (hB : ∀ i, fm i ≤ 24)  : gM l yX3_bar cX3_bar 3 (some .int) 1 21 D cls (fpT cI cQ cZ) A (rfW bd cI cZ run fm cm wr mk wo fc cc) [.ref (bd 0), .int (nI j), .int (nI k)] (some (.int 0)) (rfW bd cI cZ run fm cm wr mk wo fc cc) := by
  refine gM_of (by decide) (Nat.le_of_ble_eq_true rfl) ?_
  intro p e s m args below meth c ls hx hb hml hown hts hN hr hlk hl hG
  have hown : s.vm.findClass RX3 = some m.cls := hown
  have hl : lv_has ls 3 [(0, .ref (bd 0)), (1, .int (nI j)), (2, .int (nI k))] := hl
  refine lv_aload_n hx hb dX3_bar_0 rfl (lv_at hl 0 rfl) ?_
  refine lv_iload_n hx hb dX3_bar_1 rfl (lv_at hl 1 rfl) ?_
  refine g_callV (As := [.int (nI j)]) (rest := []) (fs := [.ref (bd 1), .ref (bd 2), .ref (bd 3), .ref (bd 4), .ref (bd 5), .ref (bd 6), .int fc, .int cc]) (rm_away_t hj h) hx hb hml hown hts hN hG t_293 t_295 s_24 t_4 t_296 nm_X3_away ⟨by decide, by decide⟩ rf_0 rfl hl.1 (Nat.le_of_ble_eq_true rfl) dX3_bar_2 ⟨Nat.zero_le _, Nat.zero_le _⟩ (fun H locs hG => ?_)
  refine W.eq (g2 := F0 m 5 ls [.int 0]) rfl ?_
  refine lv_if_eq (tgt := 12) hx hb dX3_bar_5 rfl (fun _ => ?_) (fun hh => absurd (rfl) hh)
  refine lv_iload_n hx hb dX3_bar_12 rfl (lv_at hl 2 rfl) ?_
  refine g_callS (As := [.int (nI k)]) (rest := []) (rm_isPage_t hk) hx hb hml hown hts hN hG t_309 t_310 t_4 t_311 nm_X3_isPage ⟨by decide, by decide⟩ hl.1 (Nat.le_of_ble_eq_true rfl) dX3_bar_13 ⟨Nat.zero_le _, Nat.zero_le _⟩ (fun H locs hG => ?_)
  refine W.eq (g2 := F0 m 16 ls [.int 1]) rfl ?_
  refine lv_if_ne (tgt := 24) hx hb dX3_bar_16 rfl (fun _ => ?_) (fun hh => absurd hh (by decide))
  refine lv_aload_n hx hb dX3_bar_24 rfl (lv_at hl 0 rfl) ?_
  refine g_get (k := 1) (v := .ref (bd 2)) (C := RX3) (ref := RX3) (fs := [.ref (bd 1), .ref (bd 2), .ref (bd 3), .ref (bd 4), .ref (bd 5), .ref (bd 6), .int fc, .int cc]) hx hb hown hts hG gX3 rfl rf_0 (by decide) t_239 rfl rfl dX3_bar_25 ?_
  refine lv_bipush (v := nI 64) hx hb dX3_bar_28 (by decide) ?_
  refine lv_iload_n hx hb dX3_bar_30 rfl (lv_at hl 1 rfl) ?_
  refine lv_imul hx hb dX3_bar_31 ?_
  refine g_top (y := nI (64 * j)) (pk_mul 64 j) ?_
  refine lv_iload_n hx hb dX3_bar_32 rfl (lv_at hl 2 rfl) ?_
  refine lv_iadd hx hb dX3_bar_33 ?_
  refine g_top (y := nI (64 * j + k)) (nI_add _ _) ?_
  refine g_iald (i := (64 * j + k)) (t0 := 0) hx hb hG rf_2 rfl ((by omega)) (by decide) dX3_bar_34 ?_
  refine lv_if_ne (tgt := 43) hx hb dX3_bar_35 rfl (fun _ => ?_) (fun hh => absurd hh (nI_ne0 h2 (by have := hB (64 * j + k); omega)))
  refine lv_iconst (v := 0) hx hb dX3_bar_43 (by decide) ?_
  exact g_iret hx hb hr hlk hG dX3_bar_44
set_option maxHeartbeats 4000000 in
set_option maxRecDepth 100000 in
theorem rm_pageOf_t {q : Nat} (hq : q < 256) {ws : va_W} : gM l yX3_pageOf cX3_pageOf 1 (some .int) 0 0 D cls (fpT cI cQ cZ) A (ws) [.int (nI q)] (some (.int (nI (q / 4)))) (ws) := by
  refine gM_of (by decide) (Nat.le_of_ble_eq_true rfl) ?_
  intro p e s m args below meth c ls hx hb hml hown hts hN hr hlk hl hG
  have hown : s.vm.findClass RX3 = some m.cls := hown
  have hl : lv_has ls 1 [(0, .int (nI q))] := hl
  refine lv_iload_n hx hb dX3_pageOf_0 rfl (lv_at hl 0 rfl) ?_
  refine lv_if_lt (tgt := 17) hx hb dX3_pageOf_1 rfl (fun hh => absurd hh (nI_pos (Nat.lt_trans hq (by decide)))) (fun _ => ?_)
  refine lv_iload_n hx hb dX3_pageOf_4 rfl (lv_at hl 0 rfl) ?_
  refine lv_sipush (v := nI 255) hx hb dX3_pageOf_5 (by decide) ?_
  refine lv_icmp_gt (tgt := 17) hx hb dX3_pageOf_8 rfl (fun hh => absurd hh (nI_nlt (by omega) (by decide))) (fun _ => ?_)
  refine lv_iload_n hx hb dX3_pageOf_11 rfl (lv_at hl 0 rfl) ?_
  refine lv_iconst (v := nI 4) hx hb dX3_pageOf_12 (by decide) ?_
  refine lv_idiv hx hb dX3_pageOf_13 (by decide) ?_
  refine g_top (y := nI (q / 4)) (pk_div (d := 4) (Nat.lt_trans hq (by decide)) (by decide) (by decide)) ?_
  refine lv_goto (tgt := 18) hx hb dX3_pageOf_14 rfl ?_
  exact g_iret hx hb hr hlk hG dX3_pageOf_18
set_option maxHeartbeats 4000000 in
set_option maxRecDepth 100000 in
theorem rm_pageOf_neg {x : Int32} (h : x < 0) {ws : va_W} : gM l yX3_pageOf cX3_pageOf 1 (some .int) 0 0 D cls (fpT cI cQ cZ) A (ws) [.int x] (some (.int (-1))) (ws) := by
  refine gM_of (by decide) (Nat.le_of_ble_eq_true rfl) ?_
  intro p e s m args below meth c ls hx hb hml hown hts hN hr hlk hl hG
  have hown : s.vm.findClass RX3 = some m.cls := hown
  have hl : lv_has ls 1 [(0, .int x)] := hl
  refine lv_iload_n hx hb dX3_pageOf_0 rfl (lv_at hl 0 rfl) ?_
  refine lv_if_lt (tgt := 17) hx hb dX3_pageOf_1 rfl (fun _ => ?_) (fun hh => absurd (h) hh)
  refine lv_iconst (v := (-1)) hx hb dX3_pageOf_17 (by decide) ?_
  exact g_iret hx hb hr hlk hG dX3_pageOf_18
set_option maxHeartbeats 4000000 in
set_option maxRecDepth 100000 in
theorem rm_pageOf_big {x : Int32} (h0 : ¬ x < 0) (h : nI 256 ≤ x) {ws : va_W} : gM l yX3_pageOf cX3_pageOf 1 (some .int) 0 0 D cls (fpT cI cQ cZ) A (ws) [.int x] (some (.int (-1))) (ws) := by
  refine gM_of (by decide) (Nat.le_of_ble_eq_true rfl) ?_
  intro p e s m args below meth c ls hx hb hml hown hts hN hr hlk hl hG
  have hown : s.vm.findClass RX3 = some m.cls := hown
  have hl : lv_has ls 1 [(0, .int x)] := hl
  refine lv_iload_n hx hb dX3_pageOf_0 rfl (lv_at hl 0 rfl) ?_
  refine lv_if_lt (tgt := 17) hx hb dX3_pageOf_1 rfl (fun hh => absurd hh (h0)) (fun _ => ?_)
  refine lv_iload_n hx hb dX3_pageOf_4 rfl (lv_at hl 0 rfl) ?_
  refine lv_sipush (v := nI 255) hx hb dX3_pageOf_5 (by decide) ?_
  refine lv_icmp_gt (tgt := 17) hx hb dX3_pageOf_8 rfl (fun _ => ?_) (fun hh => absurd (i255 h) hh)
  refine lv_iconst (v := (-1)) hx hb dX3_pageOf_17 (by decide) ?_
  exact g_iret hx hb hr hlk hG dX3_pageOf_18
end CM
end
