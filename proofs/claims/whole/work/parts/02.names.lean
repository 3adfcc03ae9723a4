def RX0 : String := "Writeback$Counts"
def TX0 : u_T := fun k => match k with
  | 0 => ("Writeback$Counts", "hits", "I", false)
  | 1 => ("Writeback$Counts", "misses", "I", false)
  | 2 => ("Writeback$Counts", "waits", "I", false)
  | 3 => ("Writeback$Counts", "ahead", "I", false)
  | _ => ("Writeback$Counts", "useful", "I", false)
def tyX0 : Nat → FieldType := fun k => match k with
  | 0 => .int
  | 1 => .int
  | 2 => .int
  | 3 => .int
  | _ => .int
theorem nmX0 : ∀ a, a < 5 → ∀ b, b < 5 → a ≠ b → (TX0 a).2.1 ≠ (TX0 b).2.1 := by decide +kernel
theorem tyX0_ok : ∀ k, k < 5 → parseFieldDescriptor (TX0 k).2.2.1 = some (tyX0 k) := by decide +kernel
abbrev cX0_init : ByteArray := prog_2_method_1_code
def yX0_init : MethodName := ⟨RX0, "<init>", "()V"⟩
abbrev cX0_accesses : ByteArray := prog_2_method_2_code
def yX0_accesses : MethodName := ⟨RX0, "accesses", "()I"⟩
def RX1 : String := "Writeback$Device"
def TX1 : u_T := fun k => match k with
  | 0 => ("Writeback$Device", "hasArm", "Z", true)
  | 1 => ("Writeback$Device", "values", "[I", true)
  | 2 => ("Writeback$Device", "sums", "[I", true)
  | 3 => ("Writeback$Device", "wear", "[I", true)
  | 4 => ("Writeback$Device", "arm", "I", false)
  | _ => ("Writeback$Device", "files", "I", false)
def tyX1 : Nat → FieldType := fun k => match k with
  | 0 => .boolean
  | 1 => .array .int
  | 2 => .array .int
  | 3 => .array .int
  | 4 => .int
  | _ => .int
theorem nmX1 : ∀ a, a < 6 → ∀ b, b < 6 → a ≠ b → (TX1 a).2.1 ≠ (TX1 b).2.1 := by decide +kernel
theorem tyX1_ok : ∀ k, k < 6 → parseFieldDescriptor (TX1 k).2.2.1 = some (tyX1 k) := by decide +kernel
abbrev cX1_init : ByteArray := prog_3_method_1_code
def yX1_init : MethodName := ⟨RX1, "<init>", "(I)V"⟩
abbrev cX1_reach : ByteArray := prog_3_method_2_code
def yX1_reach : MethodName := ⟨RX1, "reach", "(I)I"⟩
abbrev cX1_put : ByteArray := prog_3_method_3_code
def yX1_put : MethodName := ⟨RX1, "put", "(II)V"⟩
abbrev cX1_isDamaged : ByteArray := prog_3_method_4_code
def yX1_isDamaged : MethodName := ⟨RX1, "isDamaged", "(I)Z"⟩
abbrev cX1_damaged : ByteArray := prog_3_method_5_code
def yX1_damaged : MethodName := ⟨RX1, "damaged", "()I"⟩
abbrev cX1_takeBack : ByteArray := prog_3_method_6_code
def yX1_takeBack : MethodName := ⟨RX1, "takeBack", "([I[I)I"⟩
def RX2 : String := "Writeback$Files"
def TX2 : u_T := fun k => match k with
  | 0 => ("Writeback$Files", "homes", "[I", true)
  | 1 => ("Writeback$Files", "lastRead", "[I", true)
  | _ => ("Writeback$Files", "count", "I", false)
def tyX2 : Nat → FieldType := fun k => match k with
  | 0 => .array .int
  | 1 => .array .int
  | _ => .int
theorem nmX2 : ∀ a, a < 3 → ∀ b, b < 3 → a ≠ b → (TX2 a).2.1 ≠ (TX2 b).2.1 := by decide +kernel
theorem tyX2_ok : ∀ k, k < 3 → parseFieldDescriptor (TX2 k).2.2.1 = some (tyX2 k) := by decide +kernel
abbrev cX2_init : ByteArray := prog_4_method_1_code
def yX2_init : MethodName := ⟨RX2, "<init>", "()V"⟩
abbrev cX2_come : ByteArray := prog_4_method_2_code
def yX2_come : MethodName := ⟨RX2, "come", "(I)I"⟩
def RX3 : String := "Writeback$Frame"
def TX3 : u_T := fun k => match k with
  | 0 => ("Writeback$Frame", "spot", "I", false)
  | 1 => ("Writeback$Frame", "value", "I", false)
  | 2 => ("Writeback$Frame", "pins", "I", false)
  | 3 => ("Writeback$Frame", "dirty", "Z", false)
  | 4 => ("Writeback$Frame", "since", "I", false)
  | 5 => ("Writeback$Frame", "used", "I", false)
  | 6 => ("Writeback$Frame", "came", "I", false)
  | 7 => ("Writeback$Frame", "usedSinceHand", "Z", false)
  | 8 => ("Writeback$Frame", "ahead", "Z", false)
  | 9 => ("Writeback$Frame", "ofWork", "Z", false)
  | 10 => ("Writeback$Frame", "fresh", "Z", false)
  | 11 => ("Writeback$Frame", "oldValue", "I", false)
  | _ => ("Writeback$Frame", "oldDirty", "Z", false)
def tyX3 : Nat → FieldType := fun k => match k with
  | 0 => .int
  | 1 => .int
  | 2 => .int
  | 3 => .boolean
  | 4 => .int
  | 5 => .int
  | 6 => .int
  | 7 => .boolean
  | 8 => .boolean
  | 9 => .boolean
  | 10 => .boolean
  | 11 => .int
  | _ => .boolean
theorem nmX3 : ∀ a, a < 13 → ∀ b, b < 13 → a ≠ b → (TX3 a).2.1 ≠ (TX3 b).2.1 := by decide +kernel
theorem tyX3_ok : ∀ k, k < 13 → parseFieldDescriptor (TX3 k).2.2.1 = some (tyX3 k) := by decide +kernel
abbrev cX3_init : ByteArray := prog_5_method_1_code
def yX3_init : MethodName := ⟨RX3, "<init>", "()V"⟩
abbrev cX3_isFree : ByteArray := prog_5_method_2_code
def yX3_isFree : MethodName := ⟨RX3, "isFree", "()Z"⟩
abbrev cX3_isPlainDirty : ByteArray := prog_5_method_3_code
def yX3_isPlainDirty : MethodName := ⟨RX3, "isPlainDirty", "()Z"⟩
abbrev cX3_drop : ByteArray := prog_5_method_4_code
def yX3_drop : MethodName := ⟨RX3, "drop", "()V"⟩
abbrev cX3_remember : ByteArray := prog_5_method_5_code
def yX3_remember : MethodName := ⟨RX3, "remember", "(Z)V"⟩
abbrev cX3_goBack : ByteArray := prog_5_method_6_code
def yX3_goBack : MethodName := ⟨RX3, "goBack", "()V"⟩
def RX4 : String := "Writeback$Image"
def TX4 : u_T := fun k => match k with
  | 0 => ("Writeback$Image", "device", "I", true)
  | 1 => ("Writeback$Image", "values", "[I", true)
  | _ => ("Writeback$Image", "sums", "[I", true)
def tyX4 : Nat → FieldType := fun k => match k with
  | 0 => .int
  | 1 => .array .int
  | _ => .array .int
theorem nmX4 : ∀ a, a < 3 → ∀ b, b < 3 → a ≠ b → (TX4 a).2.1 ≠ (TX4 b).2.1 := by decide +kernel
theorem tyX4_ok : ∀ k, k < 3 → parseFieldDescriptor (TX4 k).2.2.1 = some (tyX4 k) := by decide +kernel
abbrev cX4_init : ByteArray := prog_6_method_1_code
def yX4_init : MethodName := ⟨RX4, "<init>", "(I[I[I)V"⟩
def RX5 : String := "Writeback$Log"
def TX5 : u_T := fun k => match k with
  | 0 => ("Writeback$Log", "has", "[Z", true)
  | 1 => ("Writeback$Log", "values", "[I", true)
  | _ => ("Writeback$Log", "size", "I", false)
def tyX5 : Nat → FieldType := fun k => match k with
  | 0 => .array .boolean
  | 1 => .array .int
  | _ => .int
theorem nmX5 : ∀ a, a < 3 → ∀ b, b < 3 → a ≠ b → (TX5 a).2.1 ≠ (TX5 b).2.1 := by decide +kernel
theorem tyX5_ok : ∀ k, k < 3 → parseFieldDescriptor (TX5 k).2.2.1 = some (tyX5 k) := by decide +kernel
abbrev cX5_init : ByteArray := prog_7_method_1_code
def yX5_init : MethodName := ⟨RX5, "<init>", "()V"⟩
abbrev cX5_keep : ByteArray := prog_7_method_2_code
def yX5_keep : MethodName := ⟨RX5, "keep", "(II)V"⟩
abbrev cX5_forget : ByteArray := prog_7_method_3_code
def yX5_forget : MethodName := ⟨RX5, "forget", "(I)V"⟩
def RX6 : String := "Writeback$Pool"
def TX6 : u_T := fun k => match k with
  | 0 => ("Writeback$Pool", "frames", "[LWriteback$Frame;", true)
  | 1 => ("Writeback$Pool", "size", "I", false)
  | 2 => ("Writeback$Pool", "hand", "I", false)
  | _ => ("Writeback$Pool", "time", "I", false)
def tyX6 : Nat → FieldType := fun k => match k with
  | 0 => .array (.object "Writeback$Frame")
  | 1 => .int
  | 2 => .int
  | _ => .int
theorem nmX6 : ∀ a, a < 4 → ∀ b, b < 4 → a ≠ b → (TX6 a).2.1 ≠ (TX6 b).2.1 := by decide +kernel
theorem tyX6_ok : ∀ k, k < 4 → parseFieldDescriptor (TX6 k).2.2.1 = some (tyX6 k) := by decide +kernel
abbrev cX6_init : ByteArray := prog_8_method_1_code
def yX6_init : MethodName := ⟨RX6, "<init>", "(I)V"⟩
abbrev cX6_resize : ByteArray := prog_8_method_2_code
def yX6_resize : MethodName := ⟨RX6, "resize", "(I)I"⟩
abbrev cX6_startAnew : ByteArray := prog_8_method_3_code
def yX6_startAnew : MethodName := ⟨RX6, "startAnew", "(I)V"⟩
abbrev cX6_find : ByteArray := prog_8_method_4_code
def yX6_find : MethodName := ⟨RX6, "find", "(I)I"⟩
abbrev cX6_lowestFree : ByteArray := prog_8_method_5_code
def yX6_lowestFree : MethodName := ⟨RX6, "lowestFree", "()I"⟩
abbrev cX6_hasRoom : ByteArray := prog_8_method_6_code
def yX6_hasRoom : MethodName := ⟨RX6, "hasRoom", "()Z"⟩
abbrev cX6_use : ByteArray := prog_8_method_7_code
def yX6_use : MethodName := ⟨RX6, "use", "(I)V"⟩
abbrev cX6_come : ByteArray := prog_8_method_8_code
def yX6_come : MethodName := ⟨RX6, "come", "(III)V"⟩
abbrev cX6_dropSpots : ByteArray := prog_8_method_9_code
def yX6_dropSpots : MethodName := ⟨RX6, "dropSpots", "(II)V"⟩
abbrev cX6_holdsFastBehind : ByteArray := prog_8_method_10_code
def yX6_holdsFastBehind : MethodName := ⟨RX6, "holdsFastBehind", "(I)Z"⟩
abbrev cX6_canGo : ByteArray := prog_8_method_11_code
def yX6_canGo : MethodName := ⟨RX6, "canGo", "(IZI)Z"⟩
abbrev cX6_hasEvictable : ByteArray := prog_8_method_12_code
def yX6_hasEvictable : MethodName := ⟨RX6, "hasEvictable", "(ZI)Z"⟩
abbrev cX6_choose : ByteArray := prog_8_method_13_code
def yX6_choose : MethodName := ⟨RX6, "choose", "(CZI)I"⟩
abbrev cX6_oldest : ByteArray := prog_8_method_14_code
def yX6_oldest : MethodName := ⟨RX6, "oldest", "(CZI)I"⟩
abbrev cX6_sweep : ByteArray := prog_8_method_15_code
def yX6_sweep : MethodName := ⟨RX6, "sweep", "(ZI)I"⟩
abbrev cX6_pages : ByteArray := prog_8_method_16_code
def yX6_pages : MethodName := ⟨RX6, "pages", "()I"⟩
abbrev cX6_dirtyPages : ByteArray := prog_8_method_17_code
def yX6_dirtyPages : MethodName := ⟨RX6, "dirtyPages", "(Z)I"⟩
abbrev cX6_pagesOfWork : ByteArray := prog_8_method_18_code
def yX6_pagesOfWork : MethodName := ⟨RX6, "pagesOfWork", "()I"⟩
abbrev cX6_longestDirty : ByteArray := prog_8_method_19_code
def yX6_longestDirty : MethodName := ⟨RX6, "longestDirty", "()I"⟩
abbrev cX6_hasEachPageOnce : ByteArray := prog_8_method_20_code
def yX6_hasEachPageOnce : MethodName := ⟨RX6, "hasEachPageOnce", "()Z"⟩
def RX7 : String := "Writeback$Trace"
def TX7 : u_T := fun k => match k with
  | 0 => ("Writeback$Trace", "pages", "[I", true)
  | 1 => ("Writeback$Trace", "length", "I", false)
  | 2 => ("Writeback$Trace", "following", "[I", true)
  | 3 => ("Writeback$Trace", "seen", "[I", true)
  | 4 => ("Writeback$Trace", "nexts", "[I", true)
  | _ => ("Writeback$Trace", "pool", "LWriteback$Pool;", true)
def tyX7 : Nat → FieldType := fun k => match k with
  | 0 => .array .int
  | 1 => .int
  | 2 => .array .int
  | 3 => .array .int
  | 4 => .array .int
  | _ => .object "Writeback$Pool"
theorem nmX7 : ∀ a, a < 6 → ∀ b, b < 6 → a ≠ b → (TX7 a).2.1 ≠ (TX7 b).2.1 := by decide +kernel
theorem tyX7_ok : ∀ k, k < 6 → parseFieldDescriptor (TX7 k).2.2.1 = some (tyX7 k) := by decide +kernel
abbrev cX7_init : ByteArray := prog_9_method_1_code
def yX7_init : MethodName := ⟨RX7, "<init>", "()V"⟩
abbrev cX7_add : ByteArray := prog_9_method_2_code
def yX7_add : MethodName := ⟨RX7, "add", "(I)V"⟩
abbrev cX7_misses : ByteArray := prog_9_method_3_code
def yX7_misses : MethodName := ⟨RX7, "misses", "(CI)I"⟩
abbrev cX7_lookAhead : ByteArray := prog_9_method_4_code
def yX7_lookAhead : MethodName := ⟨RX7, "lookAhead", "()V"⟩
abbrev cX7_roomBy : ByteArray := prog_9_method_5_code
def yX7_roomBy : MethodName := ⟨RX7, "roomBy", "(C)I"⟩
abbrev cX7_farthest : ByteArray := prog_9_method_6_code
def yX7_farthest : MethodName := ⟨RX7, "farthest", "()I"⟩
def RX8 : String := "Writeback$Work"
def TX8 : u_T := fun k => match k with
  | 0 => ("Writeback$Work", "going", "Z", false)
  | 1 => ("Writeback$Work", "begun", "I", false)
  | _ => ("Writeback$Work", "written", "I", false)
def tyX8 : Nat → FieldType := fun k => match k with
  | 0 => .boolean
  | 1 => .int
  | _ => .int
theorem nmX8 : ∀ a, a < 3 → ∀ b, b < 3 → a ≠ b → (TX8 a).2.1 ≠ (TX8 b).2.1 := by decide +kernel
theorem tyX8_ok : ∀ k, k < 3 → parseFieldDescriptor (TX8 k).2.2.1 = some (tyX8 k) := by decide +kernel
abbrev cX8_init : ByteArray := prog_10_method_1_code
def yX8_init : MethodName := ⟨RX8, "<init>", "()V"⟩
abbrev cX8_end : ByteArray := prog_10_method_2_code
def yX8_end : MethodName := ⟨RX8, "end", "()V"⟩
def RX9 : String := "Writeback"
def TX9 : u_T := fun k => match k with
  | 0 => ("Writeback", "devices", "[LWriteback$Device;", true)
  | 1 => ("Writeback", "files", "LWriteback$Files;", true)
  | 2 => ("Writeback", "pool", "LWriteback$Pool;", true)
  | 3 => ("Writeback", "log", "LWriteback$Log;", true)
  | 4 => ("Writeback", "work", "LWriteback$Work;", true)
  | 5 => ("Writeback", "trace", "LWriteback$Trace;", true)
  | 6 => ("Writeback", "counts", "LWriteback$Counts;", true)
  | 7 => ("Writeback", "images", "[LWriteback$Image;", true)
  | 8 => ("Writeback", "imagesKept", "I", false)
  | 9 => ("Writeback", "bills", "[J", true)
  | 10 => ("Writeback", "policy", "C", false)
  | 11 => ("Writeback", "limit", "I", false)
  | 12 => ("Writeback", "window", "I", false)
  | 13 => ("Writeback", "tenant", "I", false)
  | 14 => ("Writeback", "powered", "Z", false)
  | _ => ("Writeback", "writesLeft", "I", false)
def tyX9 : Nat → FieldType := fun k => match k with
  | 0 => .array (.object "Writeback$Device")
  | 1 => .object "Writeback$Files"
  | 2 => .object "Writeback$Pool"
  | 3 => .object "Writeback$Log"
  | 4 => .object "Writeback$Work"
  | 5 => .object "Writeback$Trace"
  | 6 => .object "Writeback$Counts"
  | 7 => .array (.object "Writeback$Image")
  | 8 => .int
  | 9 => .array .long
  | 10 => .char
  | 11 => .int
  | 12 => .int
  | 13 => .int
  | 14 => .boolean
  | _ => .int
theorem nmX9 : ∀ a, a < 16 → ∀ b, b < 16 → a ≠ b → (TX9 a).2.1 ≠ (TX9 b).2.1 := by decide +kernel
theorem tyX9_ok : ∀ k, k < 16 → parseFieldDescriptor (TX9 k).2.2.1 = some (tyX9 k) := by decide +kernel
abbrev cX9_init : ByteArray := prog_1_method_1_code
def yX9_init : MethodName := ⟨RX9, "<init>", "()V"⟩
abbrev cX9_addFile : ByteArray := prog_1_method_2_code
def yX9_addFile : MethodName := ⟨RX9, "addFile", "(I)I"⟩
abbrev cX9_setFrames : ByteArray := prog_1_method_3_code
def yX9_setFrames : MethodName := ⟨RX9, "setFrames", "(I)I"⟩
abbrev cX9_setPolicy : ByteArray := prog_1_method_4_code
def yX9_setPolicy : MethodName := ⟨RX9, "setPolicy", "(C)C"⟩
abbrev cX9_setLimit : ByteArray := prog_1_method_5_code
def yX9_setLimit : MethodName := ⟨RX9, "setLimit", "(I)I"⟩
abbrev cX9_setWindow : ByteArray := prog_1_method_6_code
def yX9_setWindow : MethodName := ⟨RX9, "setWindow", "(I)I"⟩
abbrev cX9_setTenant : ByteArray := prog_1_method_7_code
def yX9_setTenant : MethodName := ⟨RX9, "setTenant", "(I)I"⟩
abbrev cX9_read : ByteArray := prog_1_method_8_code
def yX9_read : MethodName := ⟨RX9, "read", "(II)I"⟩
abbrev cX9_write : ByteArray := prog_1_method_9_code
def yX9_write : MethodName := ⟨RX9, "write", "(III)I"⟩
abbrev cX9_pin : ByteArray := prog_1_method_10_code
def yX9_pin : MethodName := ⟨RX9, "pin", "(II)I"⟩
abbrev cX9_unpin : ByteArray := prog_1_method_11_code
def yX9_unpin : MethodName := ⟨RX9, "unpin", "(II)I"⟩
abbrev cX9_frameOf : ByteArray := prog_1_method_12_code
def yX9_frameOf : MethodName := ⟨RX9, "frameOf", "(II)I"⟩
abbrev cX9_isDirty : ByteArray := prog_1_method_13_code
def yX9_isDirty : MethodName := ⟨RX9, "isDirty", "(II)Z"⟩
abbrev cX9_onPlace : ByteArray := prog_1_method_14_code
def yX9_onPlace : MethodName := ⟨RX9, "onPlace", "(II)I"⟩
abbrev cX9_begin : ByteArray := prog_1_method_15_code
def yX9_begin : MethodName := ⟨RX9, "begin", "()I"⟩
abbrev cX9_commit : ByteArray := prog_1_method_16_code
def yX9_commit : MethodName := ⟨RX9, "commit", "()I"⟩
abbrev cX9_abort : ByteArray := prog_1_method_17_code
def yX9_abort : MethodName := ⟨RX9, "abort", "()I"⟩
abbrev cX9_countWritten : ByteArray := prog_1_method_18_code
def yX9_countWritten : MethodName := ⟨RX9, "countWritten", "()I"⟩
abbrev cX9_checkpoint : ByteArray := prog_1_method_19_code
def yX9_checkpoint : MethodName := ⟨RX9, "checkpoint", "()I"⟩
abbrev cX9_sync : ByteArray := prog_1_method_20_code
def yX9_sync : MethodName := ⟨RX9, "sync", "(I)I"⟩
abbrev cX9_countLog : ByteArray := prog_1_method_21_code
def yX9_countLog : MethodName := ⟨RX9, "countLog", "()I"⟩
abbrev cX9_failAt : ByteArray := prog_1_method_22_code
def yX9_failAt : MethodName := ⟨RX9, "failAt", "(I)I"⟩
abbrev cX9_fail : ByteArray := prog_1_method_23_code
def yX9_fail : MethodName := ⟨RX9, "fail", "()I"⟩
abbrev cX9_powerOn : ByteArray := prog_1_method_24_code
def yX9_powerOn : MethodName := ⟨RX9, "powerOn", "()I"⟩
abbrev cX9_hasPower : ByteArray := prog_1_method_25_code
def yX9_hasPower : MethodName := ⟨RX9, "hasPower", "()Z"⟩
abbrev cX9_damage : ByteArray := prog_1_method_26_code
def yX9_damage : MethodName := ⟨RX9, "damage", "(III)I"⟩
abbrev cX9_scrub : ByteArray := prog_1_method_27_code
def yX9_scrub : MethodName := ⟨RX9, "scrub", "(I)I"⟩
abbrev cX9_keepImage : ByteArray := prog_1_method_28_code
def yX9_keepImage : MethodName := ⟨RX9, "keepImage", "(I)I"⟩
abbrev cX9_layBack : ByteArray := prog_1_method_29_code
def yX9_layBack : MethodName := ⟨RX9, "layBack", "(II)I"⟩
abbrev cX9_countPages : ByteArray := prog_1_method_30_code
def yX9_countPages : MethodName := ⟨RX9, "countPages", "()I"⟩
abbrev cX9_countDirty : ByteArray := prog_1_method_31_code
def yX9_countDirty : MethodName := ⟨RX9, "countDirty", "()I"⟩
abbrev cX9_getArm : ByteArray := prog_1_method_32_code
def yX9_getArm : MethodName := ⟨RX9, "getArm", "()I"⟩
abbrev cX9_countHits : ByteArray := prog_1_method_33_code
def yX9_countHits : MethodName := ⟨RX9, "countHits", "()I"⟩
abbrev cX9_countMisses : ByteArray := prog_1_method_34_code
def yX9_countMisses : MethodName := ⟨RX9, "countMisses", "()I"⟩
abbrev cX9_countWaits : ByteArray := prog_1_method_35_code
def yX9_countWaits : MethodName := ⟨RX9, "countWaits", "()I"⟩
abbrev cX9_countAhead : ByteArray := prog_1_method_36_code
def yX9_countAhead : MethodName := ⟨RX9, "countAhead", "()I"⟩
abbrev cX9_countUseful : ByteArray := prog_1_method_37_code
def yX9_countUseful : MethodName := ⟨RX9, "countUseful", "()I"⟩
abbrev cX9_getWear : ByteArray := prog_1_method_38_code
def yX9_getWear : MethodName := ⟨RX9, "getWear", "(I)I"⟩
abbrev cX9_getBill : ByteArray := prog_1_method_39_code
def yX9_getBill : MethodName := ⟨RX9, "getBill", "(I)J"⟩
abbrev cX9_missesBy : ByteArray := prog_1_method_40_code
def yX9_missesBy : MethodName := ⟨RX9, "missesBy", "(CI)I"⟩
abbrev cX9_framesFor : ByteArray := prog_1_method_41_code
def yX9_framesFor : MethodName := ⟨RX9, "framesFor", "(I)I"⟩
abbrev cX9_getHitShare : ByteArray := prog_1_method_42_code
def yX9_getHitShare : MethodName := ⟨RX9, "getHitShare", "()F"⟩
abbrev cX9_getHitBits : ByteArray := prog_1_method_43_code
def yX9_getHitBits : MethodName := ⟨RX9, "getHitBits", "()I"⟩
abbrev cX9_getMeanCost : ByteArray := prog_1_method_44_code
def yX9_getMeanCost : MethodName := ⟨RX9, "getMeanCost", "()D"⟩
abbrev cX9_checksum : ByteArray := prog_1_method_45_code
def yX9_checksum : MethodName := ⟨RX9, "checksum", "()J"⟩
abbrev cX9_isSound : ByteArray := prog_1_method_46_code
def yX9_isSound : MethodName := ⟨RX9, "isSound", "()Z"⟩
abbrev cX9_checkRange : ByteArray := prog_1_method_47_code
def yX9_checkRange : MethodName := ⟨RX9, "checkRange", "(III)V"⟩
abbrev cX9_checkPower : ByteArray := prog_1_method_48_code
def yX9_checkPower : MethodName := ⟨RX9, "checkPower", "()V"⟩
abbrev cX9_checkWork : ByteArray := prog_1_method_49_code
def yX9_checkWork : MethodName := ⟨RX9, "checkWork", "()V"⟩
abbrev cX9_checkAccesses : ByteArray := prog_1_method_50_code
def yX9_checkAccesses : MethodName := ⟨RX9, "checkAccesses", "()V"⟩
abbrev cX9_deviceOf : ByteArray := prog_1_method_51_code
def yX9_deviceOf : MethodName := ⟨RX9, "deviceOf", "(I)LWriteback$Device;"⟩
abbrev cX9_imageOf : ByteArray := prog_1_method_52_code
def yX9_imageOf : MethodName := ⟨RX9, "imageOf", "(I)LWriteback$Image;"⟩
abbrev cX9_spotOf : ByteArray := prog_1_method_53_code
def yX9_spotOf : MethodName := ⟨RX9, "spotOf", "(II)I"⟩
abbrev cX9_isPolicy : ByteArray := prog_1_method_54_code
def yX9_isPolicy : MethodName := ⟨RX9, "isPolicy", "(C)Z"⟩
abbrev cX9_isOneTooMany : ByteArray := prog_1_method_55_code
def yX9_isOneTooMany : MethodName := ⟨RX9, "isOneTooMany", "(I)Z"⟩
abbrev cX9_valueOn : ByteArray := prog_1_method_56_code
def yX9_valueOn : MethodName := ⟨RX9, "valueOn", "(I)I"⟩
abbrev cX9_isDamaged : ByteArray := prog_1_method_57_code
def yX9_isDamaged : MethodName := ⟨RX9, "isDamaged", "(I)Z"⟩
abbrev cX9_readPlace : ByteArray := prog_1_method_58_code
def yX9_readPlace : MethodName := ⟨RX9, "readPlace", "(I)I"⟩
abbrev cX9_writePlace : ByteArray := prog_1_method_59_code
def yX9_writePlace : MethodName := ⟨RX9, "writePlace", "(II)V"⟩
abbrev cX9_mayWrite : ByteArray := prog_1_method_60_code
def yX9_mayWrite : MethodName := ⟨RX9, "mayWrite", "()Z"⟩
abbrev cX9_losePower : ByteArray := prog_1_method_61_code
def yX9_losePower : MethodName := ⟨RX9, "losePower", "()V"⟩
abbrev cX9_flush : ByteArray := prog_1_method_62_code
def yX9_flush : MethodName := ⟨RX9, "flush", "(LWriteback$Frame;)Z"⟩
abbrev cX9_evict : ByteArray := prog_1_method_63_code
def yX9_evict : MethodName := ⟨RX9, "evict", "(LWriteback$Frame;)Z"⟩
abbrev cX9_takeFrame : ByteArray := prog_1_method_64_code
def yX9_takeFrame : MethodName := ⟨RX9, "takeFrame", "()I"⟩
abbrev cX9_bring : ByteArray := prog_1_method_65_code
def yX9_bring : MethodName := ⟨RX9, "bring", "(II)V"⟩
abbrev cX9_readAhead : ByteArray := prog_1_method_66_code
def yX9_readAhead : MethodName := ⟨RX9, "readAhead", "(III)V"⟩
abbrev cX9_bringAhead : ByteArray := prog_1_method_67_code
def yX9_bringAhead : MethodName := ⟨RX9, "bringAhead", "(II)Z"⟩
abbrev cX9_countAccess : ByteArray := prog_1_method_68_code
def yX9_countAccess : MethodName := ⟨RX9, "countAccess", "(III)V"⟩
abbrev cX9_change : ByteArray := prog_1_method_69_code
def yX9_change : MethodName := ⟨RX9, "change", "(LWriteback$Frame;IZ)V"⟩
abbrev cX9_waitForLimit : ByteArray := prog_1_method_70_code
def yX9_waitForLimit : MethodName := ⟨RX9, "waitForLimit", "()I"⟩
abbrev cX9_flushSpots : ByteArray := prog_1_method_71_code
def yX9_flushSpots : MethodName := ⟨RX9, "flushSpots", "(II)I"⟩
abbrev cX9_countNewToLog : ByteArray := prog_1_method_72_code
def yX9_countNewToLog : MethodName := ⟨RX9, "countNewToLog", "()I"⟩
abbrev cX9_hitShare : ByteArray := prog_1_method_73_code
def yX9_hitShare : MethodName := ⟨RX9, "hitShare", "()F"⟩
abbrev cX9_bitsOf : ByteArray := prog_1_method_74_code
def yX9_bitsOf : MethodName := ⟨RX9, "bitsOf", "(F)I"⟩
abbrev cX9_cleanPagesAreOnPlaces : ByteArray := prog_1_method_75_code
def yX9_cleanPagesAreOnPlaces : MethodName := ⟨RX9, "cleanPagesAreOnPlaces", "()Z"⟩
abbrev cX9_logIsOfDirtyPages : ByteArray := prog_1_method_76_code
def yX9_logIsOfDirtyPages : MethodName := ⟨RX9, "logIsOfDirtyPages", "()Z"⟩
abbrev cX9_bestIsBest : ByteArray := prog_1_method_77_code
def yX9_bestIsBest : MethodName := ⟨RX9, "bestIsBest", "()Z"⟩
def RX10 : String := "WritebackModel$Image"
def TX10 : u_T := fun k => match k with
  | 0 => ("WritebackModel$Image", "device", "I", true)
  | 1 => ("WritebackModel$Image", "values", "[I", true)
  | _ => ("WritebackModel$Image", "sums", "[I", true)
def tyX10 : Nat → FieldType := fun k => match k with
  | 0 => .int
  | 1 => .array .int
  | _ => .array .int
theorem nmX10 : ∀ a, a < 3 → ∀ b, b < 3 → a ≠ b → (TX10 a).2.1 ≠ (TX10 b).2.1 := by decide +kernel
theorem tyX10_ok : ∀ k, k < 3 → parseFieldDescriptor (TX10 k).2.2.1 = some (tyX10 k) := by decide +kernel
abbrev cX10_init : ByteArray := prog_13_method_1_code
def yX10_init : MethodName := ⟨RX10, "<init>", "(I)V"⟩
def RX11 : String := "WritebackModel$Page"
def TX11 : u_T := fun k => match k with
  | 0 => ("WritebackModel$Page", "place", "I", true)
  | 1 => ("WritebackModel$Page", "value", "I", false)
  | 2 => ("WritebackModel$Page", "pins", "I", false)
  | 3 => ("WritebackModel$Page", "since", "J", false)
  | 4 => ("WritebackModel$Page", "used", "J", false)
  | 5 => ("WritebackModel$Page", "came", "J", false)
  | 6 => ("WritebackModel$Page", "isMarked", "Z", false)
  | 7 => ("WritebackModel$Page", "isAhead", "Z", false)
  | 8 => ("WritebackModel$Page", "isOurs", "Z", false)
  | 9 => ("WritebackModel$Page", "valueBefore", "I", false)
  | 10 => ("WritebackModel$Page", "sinceBefore", "J", false)
  | _ => ("WritebackModel$Page", "isNew", "Z", false)
def tyX11 : Nat → FieldType := fun k => match k with
  | 0 => .int
  | 1 => .int
  | 2 => .int
  | 3 => .long
  | 4 => .long
  | 5 => .long
  | 6 => .boolean
  | 7 => .boolean
  | 8 => .boolean
  | 9 => .int
  | 10 => .long
  | _ => .boolean
theorem nmX11 : ∀ a, a < 12 → ∀ b, b < 12 → a ≠ b → (TX11 a).2.1 ≠ (TX11 b).2.1 := by decide +kernel
theorem tyX11_ok : ∀ k, k < 12 → parseFieldDescriptor (TX11 k).2.2.1 = some (tyX11 k) := by decide +kernel
abbrev cX11_init : ByteArray := prog_14_method_1_code
def yX11_init : MethodName := ⟨RX11, "<init>", "(I)V"⟩
abbrev cX11_isDirty : ByteArray := prog_14_method_2_code
def yX11_isDirty : MethodName := ⟨RX11, "isDirty", "()Z"⟩
abbrev cX11_canGo : ByteArray := prog_14_method_3_code
def yX11_canGo : MethodName := ⟨RX11, "canGo", "()Z"⟩
def RX12 : String := "WritebackModel"
def TX12 : u_T := fun k => match k with
  | 0 => ("WritebackModel", "thrown", "I", false)
  | 1 => ("WritebackModel", "values", "[I", true)
  | 2 => ("WritebackModel", "sums", "[I", true)
  | 3 => ("WritebackModel", "wear", "[I", true)
  | 4 => ("WritebackModel", "files", "Ljava/util/ArrayList;", true)
  | 5 => ("WritebackModel", "lastRead", "[I", true)
  | 6 => ("WritebackModel", "onDevice", "[I", true)
  | 7 => ("WritebackModel", "pages", "[LWritebackModel$Page;", true)
  | 8 => ("WritebackModel", "frames", "I", false)
  | 9 => ("WritebackModel", "policy", "C", false)
  | 10 => ("WritebackModel", "limit", "I", false)
  | 11 => ("WritebackModel", "window", "I", false)
  | 12 => ("WritebackModel", "tenant", "I", false)
  | 13 => ("WritebackModel", "hand", "I", false)
  | 14 => ("WritebackModel", "arm", "I", false)
  | 15 => ("WritebackModel", "bills", "[J", true)
  | 16 => ("WritebackModel", "log", "[I", true)
  | 17 => ("WritebackModel", "goesOn", "Z", false)
  | 18 => ("WritebackModel", "begun", "I", false)
  | 19 => ("WritebackModel", "hasPower", "Z", false)
  | 20 => ("WritebackModel", "toFail", "I", false)
  | 21 => ("WritebackModel", "images", "Ljava/util/ArrayList;", true)
  | 22 => ("WritebackModel", "trace", "Ljava/util/ArrayList;", true)
  | 23 => ("WritebackModel", "hits", "I", false)
  | 24 => ("WritebackModel", "misses", "I", false)
  | 25 => ("WritebackModel", "waits", "I", false)
  | 26 => ("WritebackModel", "ahead", "I", false)
  | 27 => ("WritebackModel", "useful", "I", false)
  | _ => ("WritebackModel", "clock", "J", false)
def tyX12 : Nat → FieldType := fun k => match k with
  | 0 => .int
  | 1 => .array .int
  | 2 => .array .int
  | 3 => .array .int
  | 4 => .object "java/util/ArrayList"
  | 5 => .array .int
  | 6 => .array .int
  | 7 => .array (.object "WritebackModel$Page")
  | 8 => .int
  | 9 => .char
  | 10 => .int
  | 11 => .int
  | 12 => .int
  | 13 => .int
  | 14 => .int
  | 15 => .array .long
  | 16 => .array .int
  | 17 => .boolean
  | 18 => .int
  | 19 => .boolean
  | 20 => .int
  | 21 => .object "java/util/ArrayList"
  | 22 => .object "java/util/ArrayList"
  | 23 => .int
  | 24 => .int
  | 25 => .int
  | 26 => .int
  | 27 => .int
  | _ => .long
theorem nmX12 : ∀ a, a < 29 → ∀ b, b < 29 → a ≠ b → (TX12 a).2.1 ≠ (TX12 b).2.1 := by decide +kernel
theorem tyX12_ok : ∀ k, k < 29 → parseFieldDescriptor (TX12 k).2.2.1 = some (tyX12 k) := by decide +kernel
abbrev cX12_in : ByteArray := prog_12_method_1_code
def yX12_in : MethodName := ⟨RX12, "in", "(JJJ)Z"⟩
abbrev cX12_init : ByteArray := prog_12_method_2_code
def yX12_init : MethodName := ⟨RX12, "<init>", "()V"⟩
abbrev cX12_thrown : ByteArray := prog_12_method_3_code
def yX12_thrown : MethodName := ⟨RX12, "thrown", "()I"⟩
abbrev cX12_addFile : ByteArray := prog_12_method_4_code
def yX12_addFile : MethodName := ⟨RX12, "addFile", "(I)I"⟩
abbrev cX12_setFrames : ByteArray := prog_12_method_5_code
def yX12_setFrames : MethodName := ⟨RX12, "setFrames", "(I)I"⟩
abbrev cX12_setPolicy : ByteArray := prog_12_method_6_code
def yX12_setPolicy : MethodName := ⟨RX12, "setPolicy", "(C)C"⟩
abbrev cX12_setLimit : ByteArray := prog_12_method_7_code
def yX12_setLimit : MethodName := ⟨RX12, "setLimit", "(I)I"⟩
abbrev cX12_setWindow : ByteArray := prog_12_method_8_code
def yX12_setWindow : MethodName := ⟨RX12, "setWindow", "(I)I"⟩
abbrev cX12_setTenant : ByteArray := prog_12_method_9_code
def yX12_setTenant : MethodName := ⟨RX12, "setTenant", "(I)I"⟩
abbrev cX12_costs : ByteArray := prog_12_method_10_code
def yX12_costs : MethodName := ⟨RX12, "costs", "(I)V"⟩
abbrev cX12_falls : ByteArray := prog_12_method_11_code
def yX12_falls : MethodName := ⟨RX12, "falls", "()V"⟩
abbrev cX12_fails : ByteArray := prog_12_method_12_code
def yX12_fails : MethodName := ⟨RX12, "fails", "()Z"⟩
abbrev cX12_puts : ByteArray := prog_12_method_13_code
def yX12_puts : MethodName := ⟨RX12, "puts", "(II)V"⟩
abbrev cX12_flushes : ByteArray := prog_12_method_14_code
def yX12_flushes : MethodName := ⟨RX12, "flushes", "(LWritebackModel$Page;)Z"⟩
abbrev cX12_leaves : ByteArray := prog_12_method_15_code
def yX12_leaves : MethodName := ⟨RX12, "leaves", "(I)Z"⟩
abbrev cX12_placeOf : ByteArray := prog_12_method_16_code
def yX12_placeOf : MethodName := ⟨RX12, "placeOf", "(II)I"⟩
abbrev cX12_frameWith : ByteArray := prog_12_method_17_code
def yX12_frameWith : MethodName := ⟨RX12, "frameWith", "(I)I"⟩
abbrev cX12_free : ByteArray := prog_12_method_18_code
def yX12_free : MethodName := ⟨RX12, "free", "()I"⟩
abbrev cX12_canGo : ByteArray := prog_12_method_19_code
def yX12_canGo : MethodName := ⟨RX12, "canGo", "(IZI)Z"⟩
abbrev cX12_someCanGo : ByteArray := prog_12_method_20_code
def yX12_someCanGo : MethodName := ⟨RX12, "someCanGo", "(ZI)Z"⟩
abbrev cX12_chosen : ByteArray := prog_12_method_21_code
def yX12_chosen : MethodName := ⟨RX12, "chosen", "(ZI)I"⟩
abbrev cX12_key : ByteArray := prog_12_method_22_code
def yX12_key : MethodName := ⟨RX12, "key", "(I)J"⟩
abbrev cX12_takes : ByteArray := prog_12_method_23_code
def yX12_takes : MethodName := ⟨RX12, "takes", "()I"⟩
abbrev cX12_comes : ByteArray := prog_12_method_24_code
def yX12_comes : MethodName := ⟨RX12, "comes", "(II)LWritebackModel$Page;"⟩
abbrev cX12_uses : ByteArray := prog_12_method_25_code
def yX12_uses : MethodName := ⟨RX12, "uses", "(LWritebackModel$Page;)V"⟩
abbrev cX12_noBlock : ByteArray := prog_12_method_26_code
def yX12_noBlock : MethodName := ⟨RX12, "noBlock", "(II)Z"⟩
abbrev cX12_counts : ByteArray := prog_12_method_27_code
def yX12_counts : MethodName := ⟨RX12, "counts", "(IIZ)V"⟩
abbrev cX12_isDamaged : ByteArray := prog_12_method_28_code
def yX12_isDamaged : MethodName := ⟨RX12, "isDamaged", "(I)Z"⟩
abbrev cX12_read : ByteArray := prog_12_method_29_code
def yX12_read : MethodName := ⟨RX12, "read", "(II)I"⟩
abbrev cX12_readsAhead : ByteArray := prog_12_method_30_code
def yX12_readsAhead : MethodName := ⟨RX12, "readsAhead", "(II)V"⟩
abbrev cX12_written : ByteArray := prog_12_method_31_code
def yX12_written : MethodName := ⟨RX12, "written", "()I"⟩
abbrev cX12_dirty : ByteArray := prog_12_method_32_code
def yX12_dirty : MethodName := ⟨RX12, "dirty", "()I"⟩
abbrev cX12_write : ByteArray := prog_12_method_33_code
def yX12_write : MethodName := ⟨RX12, "write", "(III)I"⟩
abbrev cX12_longest : ByteArray := prog_12_method_34_code
def yX12_longest : MethodName := ⟨RX12, "longest", "()LWritebackModel$Page;"⟩
abbrev cX12_paged : ByteArray := prog_12_method_35_code
def yX12_paged : MethodName := ⟨RX12, "paged", "(II)LWritebackModel$Page;"⟩
abbrev cX12_pin : ByteArray := prog_12_method_36_code
def yX12_pin : MethodName := ⟨RX12, "pin", "(II)I"⟩
abbrev cX12_unpin : ByteArray := prog_12_method_37_code
def yX12_unpin : MethodName := ⟨RX12, "unpin", "(II)I"⟩
abbrev cX12_frameOf : ByteArray := prog_12_method_38_code
def yX12_frameOf : MethodName := ⟨RX12, "frameOf", "(II)I"⟩
abbrev cX12_isDirty : ByteArray := prog_12_method_39_code
def yX12_isDirty : MethodName := ⟨RX12, "isDirty", "(II)Z"⟩
abbrev cX12_onPlace : ByteArray := prog_12_method_40_code
def yX12_onPlace : MethodName := ⟨RX12, "onPlace", "(II)I"⟩
abbrev cX12_begin : ByteArray := prog_12_method_41_code
def yX12_begin : MethodName := ⟨RX12, "begin", "()I"⟩
abbrev cX12_logged : ByteArray := prog_12_method_42_code
def yX12_logged : MethodName := ⟨RX12, "logged", "()I"⟩
abbrev cX12_commit : ByteArray := prog_12_method_43_code
def yX12_commit : MethodName := ⟨RX12, "commit", "()I"⟩
abbrev cX12_abort : ByteArray := prog_12_method_44_code
def yX12_abort : MethodName := ⟨RX12, "abort", "()I"⟩
abbrev cX12_countWritten : ByteArray := prog_12_method_45_code
def yX12_countWritten : MethodName := ⟨RX12, "countWritten", "()I"⟩
abbrev cX12_flushesAll : ByteArray := prog_12_method_46_code
def yX12_flushesAll : MethodName := ⟨RX12, "flushesAll", "(II)I"⟩
abbrev cX12_checkpoint : ByteArray := prog_12_method_47_code
def yX12_checkpoint : MethodName := ⟨RX12, "checkpoint", "()I"⟩
abbrev cX12_sync : ByteArray := prog_12_method_48_code
def yX12_sync : MethodName := ⟨RX12, "sync", "(I)I"⟩
abbrev cX12_countLog : ByteArray := prog_12_method_49_code
def yX12_countLog : MethodName := ⟨RX12, "countLog", "()I"⟩
abbrev cX12_failAt : ByteArray := prog_12_method_50_code
def yX12_failAt : MethodName := ⟨RX12, "failAt", "(I)I"⟩
abbrev cX12_fail : ByteArray := prog_12_method_51_code
def yX12_fail : MethodName := ⟨RX12, "fail", "()I"⟩
abbrev cX12_powerOn : ByteArray := prog_12_method_52_code
def yX12_powerOn : MethodName := ⟨RX12, "powerOn", "()I"⟩
abbrev cX12_hasPower : ByteArray := prog_12_method_53_code
def yX12_hasPower : MethodName := ⟨RX12, "hasPower", "()Z"⟩
abbrev cX12_damage : ByteArray := prog_12_method_54_code
def yX12_damage : MethodName := ⟨RX12, "damage", "(III)I"⟩
abbrev cX12_scrub : ByteArray := prog_12_method_55_code
def yX12_scrub : MethodName := ⟨RX12, "scrub", "(I)I"⟩
abbrev cX12_keepImage : ByteArray := prog_12_method_56_code
def yX12_keepImage : MethodName := ⟨RX12, "keepImage", "(I)I"⟩
abbrev cX12_layBack : ByteArray := prog_12_method_57_code
def yX12_layBack : MethodName := ⟨RX12, "layBack", "(II)I"⟩
abbrev cX12_countPages : ByteArray := prog_12_method_58_code
def yX12_countPages : MethodName := ⟨RX12, "countPages", "()I"⟩
abbrev cX12_countDirty : ByteArray := prog_12_method_59_code
def yX12_countDirty : MethodName := ⟨RX12, "countDirty", "()I"⟩
abbrev cX12_getArm : ByteArray := prog_12_method_60_code
def yX12_getArm : MethodName := ⟨RX12, "getArm", "()I"⟩
abbrev cX12_countHits : ByteArray := prog_12_method_61_code
def yX12_countHits : MethodName := ⟨RX12, "countHits", "()I"⟩
abbrev cX12_countMisses : ByteArray := prog_12_method_62_code
def yX12_countMisses : MethodName := ⟨RX12, "countMisses", "()I"⟩
abbrev cX12_countWaits : ByteArray := prog_12_method_63_code
def yX12_countWaits : MethodName := ⟨RX12, "countWaits", "()I"⟩
abbrev cX12_countAhead : ByteArray := prog_12_method_64_code
def yX12_countAhead : MethodName := ⟨RX12, "countAhead", "()I"⟩
abbrev cX12_countUseful : ByteArray := prog_12_method_65_code
def yX12_countUseful : MethodName := ⟨RX12, "countUseful", "()I"⟩
abbrev cX12_getWear : ByteArray := prog_12_method_66_code
def yX12_getWear : MethodName := ⟨RX12, "getWear", "(I)I"⟩
abbrev cX12_getBill : ByteArray := prog_12_method_67_code
def yX12_getBill : MethodName := ⟨RX12, "getBill", "(I)J"⟩
abbrev cX12_nextOf : ByteArray := prog_12_method_68_code
def yX12_nextOf : MethodName := ⟨RX12, "nextOf", "(II)I"⟩
abbrev cX12_missed : ByteArray := prog_12_method_69_code
def yX12_missed : MethodName := ⟨RX12, "missed", "(CI)I"⟩
abbrev cX12_missesBy : ByteArray := prog_12_method_70_code
def yX12_missesBy : MethodName := ⟨RX12, "missesBy", "(CI)I"⟩
abbrev cX12_framesFor : ByteArray := prog_12_method_71_code
def yX12_framesFor : MethodName := ⟨RX12, "framesFor", "(I)I"⟩
abbrev cX12_getHitShare : ByteArray := prog_12_method_72_code
def yX12_getHitShare : MethodName := ⟨RX12, "getHitShare", "()F"⟩
abbrev cX12_getHitBits : ByteArray := prog_12_method_73_code
def yX12_getHitBits : MethodName := ⟨RX12, "getHitBits", "()I"⟩
abbrev cX12_getMeanCost : ByteArray := prog_12_method_74_code
def yX12_getMeanCost : MethodName := ⟨RX12, "getMeanCost", "()D"⟩
abbrev cX12_checksum : ByteArray := prog_12_method_75_code
def yX12_checksum : MethodName := ⟨RX12, "checksum", "()J"⟩
abbrev cX12_isSound : ByteArray := prog_12_method_76_code
def yX12_isSound : MethodName := ⟨RX12, "isSound", "()Z"⟩
def RJx145de : String := "java/io/Serializable"
def TJx145de : u_T := fun k => match k with
  | _ => ("", "", "", false)
def tyJx145de : Nat → FieldType := fun k => match k with
  | _ => .int
theorem nmJx145de : ∀ a, a < 0 → ∀ b, b < 0 → a ≠ b → (TJx145de a).2.1 ≠ (TJx145de b).2.1 := by decide +kernel
theorem tyJx145de_ok : ∀ k, k < 0 → parseFieldDescriptor (TJx145de k).2.2.1 = some (tyJx145de k) := by decide +kernel
def RJx00060 : String := "java/lang/ArrayIndexOutOfBoundsException"
def TJx00060 : u_T := fun k => match k with
  | 0 => ("java/lang/Throwable", "backtrace", "Ljava/lang/Object;", false)
  | 1 => ("java/lang/Throwable", "detailMessage", "Ljava/lang/String;", false)
  | 2 => ("java/lang/Throwable", "cause", "Ljava/lang/Throwable;", false)
  | 3 => ("java/lang/Throwable", "stackTrace", "[Ljava/lang/StackTraceElement;", false)
  | 4 => ("java/lang/Throwable", "depth", "I", false)
  | _ => ("java/lang/Throwable", "suppressedExceptions", "Ljava/util/List;", false)
def tyJx00060 : Nat → FieldType := fun k => match k with
  | 0 => .object "java/lang/Object"
  | 1 => .object "java/lang/String"
  | 2 => .object "java/lang/Throwable"
  | 3 => .array (.object "java/lang/StackTraceElement")
  | 4 => .int
  | _ => .object "java/util/List"
theorem nmJx00060 : ∀ a, a < 6 → ∀ b, b < 6 → a ≠ b → (TJx00060 a).2.1 ≠ (TJx00060 b).2.1 := by decide +kernel
theorem tyJx00060_ok : ∀ k, k < 6 → parseFieldDescriptor (TJx00060 k).2.2.1 = some (tyJx00060 k) := by decide +kernel
abbrev cJx00060_init_a7421 : ByteArray := prog_17_method_2_code
def yJx00060_init_a7421 : MethodName := ⟨RJx00060, "<init>", "(Ljava/lang/String;)V"⟩
def RJx9f9b0 : String := "java/lang/CharSequence"
def TJx9f9b0 : u_T := fun k => match k with
  | _ => ("", "", "", false)
def tyJx9f9b0 : Nat → FieldType := fun k => match k with
  | _ => .int
theorem nmJx9f9b0 : ∀ a, a < 0 → ∀ b, b < 0 → a ≠ b → (TJx9f9b0 a).2.1 ≠ (TJx9f9b0 b).2.1 := by decide +kernel
theorem tyJx9f9b0_ok : ∀ k, k < 0 → parseFieldDescriptor (TJx9f9b0 k).2.2.1 = some (tyJx9f9b0 k) := by decide +kernel
def RJ11 : String := "java/lang/Character"
def TJ11 : u_T := fun k => match k with
  | _ => ("", "", "", false)
def tyJ11 : Nat → FieldType := fun k => match k with
  | _ => .int
theorem nmJ11 : ∀ a, a < 0 → ∀ b, b < 0 → a ≠ b → (TJ11 a).2.1 ≠ (TJ11 b).2.1 := by decide +kernel
theorem tyJ11_ok : ∀ k, k < 0 → parseFieldDescriptor (TJ11 k).2.2.1 = some (tyJ11 k) := by decide +kernel
abbrev cJ11_isValidCodePoint_9a6ad : ByteArray := prog_19_method_11_code
def yJ11_isValidCodePoint_9a6ad : MethodName := ⟨RJ11, "isValidCodePoint", "(I)Z"⟩
abbrev cJ11_highSurrogate_5068e : ByteArray := prog_19_method_28_code
def yJ11_highSurrogate_5068e : MethodName := ⟨RJ11, "highSurrogate", "(I)C"⟩
abbrev cJ11_lowSurrogate_5068e : ByteArray := prog_19_method_29_code
def yJ11_lowSurrogate_5068e : MethodName := ⟨RJ11, "lowSurrogate", "(I)C"⟩
def RJx8e188 : String := "java/lang/Cloneable"
def TJx8e188 : u_T := fun k => match k with
  | _ => ("", "", "", false)
def tyJx8e188 : Nat → FieldType := fun k => match k with
  | _ => .int
theorem nmJx8e188 : ∀ a, a < 0 → ∀ b, b < 0 → a ≠ b → (TJx8e188 a).2.1 ≠ (TJx8e188 b).2.1 := by decide +kernel
theorem tyJx8e188_ok : ∀ k, k < 0 → parseFieldDescriptor (TJx8e188 k).2.2.1 = some (tyJx8e188 k) := by decide +kernel
def RJxb160c : String := "java/lang/Comparable"
def TJxb160c : u_T := fun k => match k with
  | _ => ("", "", "", false)
def tyJxb160c : Nat → FieldType := fun k => match k with
  | _ => .int
theorem nmJxb160c : ∀ a, a < 0 → ∀ b, b < 0 → a ≠ b → (TJxb160c a).2.1 ≠ (TJxb160c b).2.1 := by decide +kernel
theorem tyJxb160c_ok : ∀ k, k < 0 → parseFieldDescriptor (TJxb160c k).2.2.1 = some (tyJxb160c k) := by decide +kernel
def RJxf58ca : String := "java/lang/Float"
def TJxf58ca : u_T := fun k => match k with
  | _ => ("", "", "", false)
def tyJxf58ca : Nat → FieldType := fun k => match k with
  | _ => .int
theorem nmJxf58ca : ∀ a, a < 0 → ∀ b, b < 0 → a ≠ b → (TJxf58ca a).2.1 ≠ (TJxf58ca b).2.1 := by decide +kernel
theorem tyJxf58ca_ok : ∀ k, k < 0 → parseFieldDescriptor (TJxf58ca k).2.2.1 = some (tyJxf58ca k) := by decide +kernel
abbrev cJxf58ca_isNaN_12338 : ByteArray := prog_23_method_6_code
def yJxf58ca_isNaN_12338 : MethodName := ⟨RJxf58ca, "isNaN", "(F)Z"⟩
abbrev cJxf58ca_floatToIntBits_5c35a : ByteArray := prog_23_method_24_code
def yJxf58ca_floatToIntBits_5c35a : MethodName := ⟨RJxf58ca, "floatToIntBits", "(F)I"⟩
def RJxabbfe : String := "java/lang/Integer$IntegerCache"
def TJxabbfe : u_T := fun k => match k with
  | _ => ("", "", "", false)
def tyJxabbfe : Nat → FieldType := fun k => match k with
  | _ => .int
theorem nmJxabbfe : ∀ a, a < 0 → ∀ b, b < 0 → a ≠ b → (TJxabbfe a).2.1 ≠ (TJxabbfe b).2.1 := by decide +kernel
theorem tyJxabbfe_ok : ∀ k, k < 0 → parseFieldDescriptor (TJxabbfe k).2.2.1 = some (tyJxabbfe k) := by decide +kernel
def RJ6 : String := "java/lang/Integer"
def TJ6 : u_T := fun k => match k with
  | _ => ("java/lang/Integer", "value", "I", true)
def tyJ6 : Nat → FieldType := fun k => match k with
  | _ => .int
theorem nmJ6 : ∀ a, a < 1 → ∀ b, b < 1 → a ≠ b → (TJ6 a).2.1 ≠ (TJ6 b).2.1 := by decide +kernel
theorem tyJ6_ok : ∀ k, k < 1 → parseFieldDescriptor (TJ6 k).2.2.1 = some (tyJ6 k) := by decide +kernel
abbrev cJ6_valueOf_2dffe : ByteArray := prog_27_method_22_code
def yJ6_valueOf_2dffe : MethodName := ⟨RJ6, "valueOf", "(I)Ljava/lang/Integer;"⟩
abbrev cJ6_init_d00df : ByteArray := prog_27_method_23_code
def yJ6_init_d00df : MethodName := ⟨RJ6, "<init>", "(I)V"⟩
abbrev cJ6_intValue_8abf5 : ByteArray := prog_27_method_27_code
def yJ6_intValue_8abf5 : MethodName := ⟨RJ6, "intValue", "()I"⟩
def RJxab1ab : String := "java/lang/Iterable"
def TJxab1ab : u_T := fun k => match k with
  | _ => ("", "", "", false)
def tyJxab1ab : Nat → FieldType := fun k => match k with
  | _ => .int
theorem nmJxab1ab : ∀ a, a < 0 → ∀ b, b < 0 → a ≠ b → (TJxab1ab a).2.1 ≠ (TJxab1ab b).2.1 := by decide +kernel
theorem tyJxab1ab_ok : ∀ k, k < 0 → parseFieldDescriptor (TJxab1ab k).2.2.1 = some (tyJxab1ab k) := by decide +kernel
def RJ9 : String := "java/lang/Math"
def TJ9 : u_T := fun k => match k with
  | _ => ("", "", "", false)
def tyJ9 : Nat → FieldType := fun k => match k with
  | _ => .int
theorem nmJ9 : ∀ a, a < 0 → ∀ b, b < 0 → a ≠ b → (TJ9 a).2.1 ≠ (TJ9 b).2.1 := by decide +kernel
theorem tyJ9_ok : ∀ k, k < 0 → parseFieldDescriptor (TJ9 k).2.2.1 = some (tyJ9 k) := by decide +kernel
abbrev cJ9_abs_0f7a4 : ByteArray := prog_30_method_59_code
def yJ9_abs_0f7a4 : MethodName := ⟨RJ9, "abs", "(I)I"⟩
abbrev cJ9_max_7cf53 : ByteArray := prog_30_method_65_code
def yJ9_max_7cf53 : MethodName := ⟨RJ9, "max", "(II)I"⟩
abbrev cJ9_min_7cf53 : ByteArray := prog_30_method_69_code
def yJ9_min_7cf53 : MethodName := ⟨RJ9, "min", "(II)I"⟩
def RJxd2413 : String := "java/lang/Number"
def TJxd2413 : u_T := fun k => match k with
  | _ => ("", "", "", false)
def tyJxd2413 : Nat → FieldType := fun k => match k with
  | _ => .int
theorem nmJxd2413 : ∀ a, a < 0 → ∀ b, b < 0 → a ≠ b → (TJxd2413 a).2.1 ≠ (TJxd2413 b).2.1 := by decide +kernel
theorem tyJxd2413_ok : ∀ k, k < 0 → parseFieldDescriptor (TJxd2413 k).2.2.1 = some (tyJxd2413 k) := by decide +kernel
abbrev cJxd2413_init_da8c8 : ByteArray := prog_31_method_1_code
def yJxd2413_init_da8c8 : MethodName := ⟨RJxd2413, "<init>", "()V"⟩
def RJ0 : String := "java/lang/String"
def TJ0 : u_T := fun k => match k with
  | 0 => ("java/lang/String", "value", "[B", true)
  | _ => ("java/lang/String", "coder", "B", true)
def tyJ0 : Nat → FieldType := fun k => match k with
  | 0 => .array .byte
  | _ => .byte
theorem nmJ0 : ∀ a, a < 2 → ∀ b, b < 2 → a ≠ b → (TJ0 a).2.1 ≠ (TJ0 b).2.1 := by decide +kernel
theorem tyJ0_ok : ∀ k, k < 2 → parseFieldDescriptor (TJ0 k).2.2.1 = some (tyJ0 k) := by decide +kernel
abbrev cJ0_length_8abf5 : ByteArray := prog_33_method_54_code
def yJ0_length_8abf5 : MethodName := ⟨RJ0, "length", "()I"⟩
abbrev cJ0_indexOf_0f7a4 : ByteArray := prog_33_method_79_code
def yJ0_indexOf_0f7a4 : MethodName := ⟨RJ0, "indexOf", "(I)I"⟩
abbrev cJ0_indexOf_7cf53 : ByteArray := prog_33_method_80_code
def yJ0_indexOf_7cf53 : MethodName := ⟨RJ0, "indexOf", "(II)I"⟩
abbrev cJ0_coder_7d493 : ByteArray := prog_33_method_152_code
def yJ0_coder_7d493 : MethodName := ⟨RJ0, "coder", "()B"⟩
abbrev cJ0_isLatin1_aae02 : ByteArray := prog_33_method_154_code
def yJ0_isLatin1_aae02 : MethodName := ⟨RJ0, "isLatin1", "()Z"⟩
abbrev cJ0_checkBoundsBeginEnd_23922 : ByteArray := prog_33_method_158_code
def yJ0_checkBoundsBeginEnd_23922 : MethodName := ⟨RJ0, "checkBoundsBeginEnd", "(III)V"⟩
def RJ1 : String := "java/lang/StringLatin1"
def TJ1 : u_T := fun k => match k with
  | _ => ("", "", "", false)
def tyJ1 : Nat → FieldType := fun k => match k with
  | _ => .int
theorem nmJ1 : ∀ a, a < 0 → ∀ b, b < 0 → a ≠ b → (TJ1 a).2.1 ≠ (TJ1 b).2.1 := by decide +kernel
theorem tyJ1_ok : ∀ k, k < 0 → parseFieldDescriptor (TJ1 k).2.2.1 = some (tyJ1 k) := by decide +kernel
abbrev cJ1_canEncode_9a6ad : ByteArray := prog_34_method_4_code
def yJ1_canEncode_9a6ad : MethodName := ⟨RJ1, "canEncode", "(I)Z"⟩
abbrev cJ1_indexOf_4cfef : ByteArray := prog_34_method_22_code
def yJ1_indexOf_4cfef : MethodName := ⟨RJ1, "indexOf", "([BIII)I"⟩
abbrev cJ1_indexOfChar_4cfef : ByteArray := prog_34_method_23_code
def yJ1_indexOfChar_4cfef : MethodName := ⟨RJ1, "indexOfChar", "([BIII)I"⟩
def RJ2 : String := "java/lang/StringUTF16"
def TJ2 : u_T := fun k => match k with
  | _ => ("", "", "", false)
def tyJ2 : Nat → FieldType := fun k => match k with
  | _ => .int
theorem nmJ2 : ∀ a, a < 0 → ∀ b, b < 0 → a ≠ b → (TJ2 a).2.1 ≠ (TJ2 b).2.1 := by decide +kernel
theorem tyJ2_ok : ∀ k, k < 0 → parseFieldDescriptor (TJ2 k).2.2.1 = some (tyJ2 k) := by decide +kernel
abbrev cJ2_getChar_3b067 : ByteArray := prog_35_method_5_code
def yJ2_getChar_3b067 : MethodName := ⟨RJ2, "getChar", "([BI)C"⟩
abbrev cJ2_length_9d52b : ByteArray := prog_35_method_6_code
def yJ2_length_9d52b : MethodName := ⟨RJ2, "length", "([B)I"⟩
abbrev cJ2_indexOf_4cfef : ByteArray := prog_35_method_40_code
def yJ2_indexOf_4cfef : MethodName := ⟨RJ2, "indexOf", "([BIII)I"⟩
abbrev cJ2_indexOfChar_4cfef : ByteArray := prog_35_method_47_code
def yJ2_indexOfChar_4cfef : MethodName := ⟨RJ2, "indexOfChar", "([BIII)I"⟩
abbrev cJ2_indexOfCharUnsafe_4cfef : ByteArray := prog_35_method_48_code
def yJ2_indexOfCharUnsafe_4cfef : MethodName := ⟨RJ2, "indexOfCharUnsafe", "([BIII)I"⟩
abbrev cJ2_indexOfSupplementary_4cfef : ByteArray := prog_35_method_49_code
def yJ2_indexOfSupplementary_4cfef : MethodName := ⟨RJ2, "indexOfSupplementary", "([BIII)I"⟩
abbrev cJ2_checkBoundsBeginEnd_d044e : ByteArray := prog_35_method_93_code
def yJ2_checkBoundsBeginEnd_d044e : MethodName := ⟨RJ2, "checkBoundsBeginEnd", "(II[B)V"⟩
def RJ10 : String := "java/lang/System"
def TJ10 : u_T := fun k => match k with
  | _ => ("", "", "", false)
def tyJ10 : Nat → FieldType := fun k => match k with
  | _ => .int
theorem nmJ10 : ∀ a, a < 0 → ∀ b, b < 0 → a ≠ b → (TJ10 a).2.1 ≠ (TJ10 b).2.1 := by decide +kernel
theorem tyJ10_ok : ∀ k, k < 0 → parseFieldDescriptor (TJ10 k).2.2.1 = some (tyJ10 k) := by decide +kernel
def RJxfd54e : String := "java/lang/constant/Constable"
def TJxfd54e : u_T := fun k => match k with
  | _ => ("", "", "", false)
def tyJxfd54e : Nat → FieldType := fun k => match k with
  | _ => .int
theorem nmJxfd54e : ∀ a, a < 0 → ∀ b, b < 0 → a ≠ b → (TJxfd54e a).2.1 ≠ (TJxfd54e b).2.1 := by decide +kernel
theorem tyJxfd54e_ok : ∀ k, k < 0 → parseFieldDescriptor (TJxfd54e k).2.2.1 = some (tyJxfd54e k) := by decide +kernel
def RJx3cf43 : String := "java/lang/constant/ConstantDesc"
def TJx3cf43 : u_T := fun k => match k with
  | _ => ("", "", "", false)
def tyJx3cf43 : Nat → FieldType := fun k => match k with
  | _ => .int
theorem nmJx3cf43 : ∀ a, a < 0 → ∀ b, b < 0 → a ≠ b → (TJx3cf43 a).2.1 ≠ (TJx3cf43 b).2.1 := by decide +kernel
theorem tyJx3cf43_ok : ∀ k, k < 0 → parseFieldDescriptor (TJx3cf43 k).2.2.1 = some (tyJx3cf43 k) := by decide +kernel
def RJxa1e45 : String := "java/util/AbstractCollection"
def TJxa1e45 : u_T := fun k => match k with
  | _ => ("", "", "", false)
def tyJxa1e45 : Nat → FieldType := fun k => match k with
  | _ => .int
theorem nmJxa1e45 : ∀ a, a < 0 → ∀ b, b < 0 → a ≠ b → (TJxa1e45 a).2.1 ≠ (TJxa1e45 b).2.1 := by decide +kernel
theorem tyJxa1e45_ok : ∀ k, k < 0 → parseFieldDescriptor (TJxa1e45 k).2.2.1 = some (tyJxa1e45 k) := by decide +kernel
abbrev cJxa1e45_init_da8c8 : ByteArray := prog_41_method_1_code
def yJxa1e45_init_da8c8 : MethodName := ⟨RJxa1e45, "<init>", "()V"⟩
def RJxc12de : String := "java/util/AbstractList"
def TJxc12de : u_T := fun k => match k with
  | _ => ("", "", "", false)
def tyJxc12de : Nat → FieldType := fun k => match k with
  | _ => .int
theorem nmJxc12de : ∀ a, a < 0 → ∀ b, b < 0 → a ≠ b → (TJxc12de a).2.1 ≠ (TJxc12de b).2.1 := by decide +kernel
theorem tyJxc12de_ok : ∀ k, k < 0 → parseFieldDescriptor (TJxc12de k).2.2.1 = some (tyJxc12de k) := by decide +kernel
abbrev cJxc12de_init_da8c8 : ByteArray := prog_42_method_1_code
def yJxc12de_init_da8c8 : MethodName := ⟨RJxc12de, "<init>", "()V"⟩
def RJx4a65c : String := "java/util/ArrayList"
def TJx4a65c : u_T := fun k => match k with
  | 0 => ("java/util/AbstractList", "modCount", "I", false)
  | 1 => ("java/util/ArrayList", "elementData", "[Ljava/lang/Object;", false)
  | _ => ("java/util/ArrayList", "size", "I", false)
def tyJx4a65c : Nat → FieldType := fun k => match k with
  | 0 => .int
  | 1 => .array (.object "java/lang/Object")
  | _ => .int
theorem nmJx4a65c : ∀ a, a < 3 → ∀ b, b < 3 → a ≠ b → (TJx4a65c a).2.1 ≠ (TJx4a65c b).2.1 := by decide +kernel
theorem tyJx4a65c_ok : ∀ k, k < 3 → parseFieldDescriptor (TJx4a65c k).2.2.1 = some (tyJx4a65c k) := by decide +kernel
abbrev cJx4a65c_init_da8c8 : ByteArray := prog_43_method_2_code
def yJx4a65c_init_da8c8 : MethodName := ⟨RJx4a65c, "<init>", "()V"⟩
abbrev cJx4a65c_grow_92f84 : ByteArray := prog_43_method_6_code
def yJx4a65c_grow_92f84 : MethodName := ⟨RJx4a65c, "grow", "(I)[Ljava/lang/Object;"⟩
abbrev cJx4a65c_grow_d5877 : ByteArray := prog_43_method_7_code
def yJx4a65c_grow_d5877 : MethodName := ⟨RJx4a65c, "grow", "()[Ljava/lang/Object;"⟩
abbrev cJx4a65c_size_8abf5 : ByteArray := prog_43_method_8_code
def yJx4a65c_size_8abf5 : MethodName := ⟨RJx4a65c, "size", "()I"⟩
abbrev cJx4a65c_elementData_915e3 : ByteArray := prog_43_method_18_code
def yJx4a65c_elementData_915e3 : MethodName := ⟨RJx4a65c, "elementData", "(I)Ljava/lang/Object;"⟩
abbrev cJx4a65c_get_915e3 : ByteArray := prog_43_method_20_code
def yJx4a65c_get_915e3 : MethodName := ⟨RJx4a65c, "get", "(I)Ljava/lang/Object;"⟩
abbrev cJx4a65c_add_72be8 : ByteArray := prog_43_method_24_code
def yJx4a65c_add_72be8 : MethodName := ⟨RJx4a65c, "add", "(Ljava/lang/Object;[Ljava/lang/Object;I)V"⟩
abbrev cJx4a65c_add_9ea2d : ByteArray := prog_43_method_25_code
def yJx4a65c_add_9ea2d : MethodName := ⟨RJx4a65c, "add", "(Ljava/lang/Object;)Z"⟩
abbrev cJx4a65c_remove_915e3 : ByteArray := prog_43_method_29_code
def yJx4a65c_remove_915e3 : MethodName := ⟨RJx4a65c, "remove", "(I)Ljava/lang/Object;"⟩
abbrev cJx4a65c_fastRemove_b59b0 : ByteArray := prog_43_method_39_code
def yJx4a65c_fastRemove_b59b0 : MethodName := ⟨RJx4a65c, "fastRemove", "([Ljava/lang/Object;I)V"⟩
def RJ7 : String := "java/util/Arrays"
def TJ7 : u_T := fun k => match k with
  | _ => ("", "", "", false)
def tyJ7 : Nat → FieldType := fun k => match k with
  | _ => .int
theorem nmJ7 : ∀ a, a < 0 → ∀ b, b < 0 → a ≠ b → (TJ7 a).2.1 ≠ (TJ7 b).2.1 := by decide +kernel
theorem tyJ7_ok : ∀ k, k < 0 → parseFieldDescriptor (TJ7 k).2.2.1 = some (tyJ7 k) := by decide +kernel
abbrev cJ7_copyOf_1904c : ByteArray := prog_44_method_119_code
def yJ7_copyOf_1904c : MethodName := ⟨RJ7, "copyOf", "([Ljava/lang/Object;I)[Ljava/lang/Object;"⟩
abbrev cJ7_copyOf_6403c : ByteArray := prog_44_method_120_code
def yJ7_copyOf_6403c : MethodName := ⟨RJ7, "copyOf", "([Ljava/lang/Object;ILjava/lang/Class;)[Ljava/lang/Object;"⟩
def RJx5ef63 : String := "java/util/Collection"
def TJx5ef63 : u_T := fun k => match k with
  | _ => ("", "", "", false)
def tyJx5ef63 : Nat → FieldType := fun k => match k with
  | _ => .int
theorem nmJx5ef63 : ∀ a, a < 0 → ∀ b, b < 0 → a ≠ b → (TJx5ef63 a).2.1 ≠ (TJx5ef63 b).2.1 := by decide +kernel
theorem tyJx5ef63_ok : ∀ k, k < 0 → parseFieldDescriptor (TJx5ef63 k).2.2.1 = some (tyJx5ef63 k) := by decide +kernel
def RJxbd725 : String := "java/util/List"
def TJxbd725 : u_T := fun k => match k with
  | _ => ("", "", "", false)
def tyJxbd725 : Nat → FieldType := fun k => match k with
  | _ => .int
theorem nmJxbd725 : ∀ a, a < 0 → ∀ b, b < 0 → a ≠ b → (TJxbd725 a).2.1 ≠ (TJxbd725 b).2.1 := by decide +kernel
theorem tyJxbd725_ok : ∀ k, k < 0 → parseFieldDescriptor (TJxbd725 k).2.2.1 = some (tyJxbd725 k) := by decide +kernel
def RJ15 : String := "java/util/Objects"
def TJ15 : u_T := fun k => match k with
  | _ => ("", "", "", false)
def tyJ15 : Nat → FieldType := fun k => match k with
  | _ => .int
theorem nmJ15 : ∀ a, a < 0 → ∀ b, b < 0 → a ≠ b → (TJ15 a).2.1 ≠ (TJ15 b).2.1 := by decide +kernel
theorem tyJ15_ok : ∀ k, k < 0 → parseFieldDescriptor (TJ15 k).2.2.1 = some (tyJ15 k) := by decide +kernel
abbrev cJ15_checkIndex_7cf53 : ByteArray := prog_48_method_17_code
def yJ15_checkIndex_7cf53 : MethodName := ⟨RJ15, "checkIndex", "(II)I"⟩
def RJxf0a74 : String := "java/util/RandomAccess"
def TJxf0a74 : u_T := fun k => match k with
  | _ => ("", "", "", false)
def tyJxf0a74 : Nat → FieldType := fun k => match k with
  | _ => .int
theorem nmJxf0a74 : ∀ a, a < 0 → ∀ b, b < 0 → a ≠ b → (TJxf0a74 a).2.1 ≠ (TJxf0a74 b).2.1 := by decide +kernel
theorem tyJxf0a74_ok : ∀ k, k < 0 → parseFieldDescriptor (TJxf0a74 k).2.2.1 = some (tyJxf0a74 k) := by decide +kernel
def RJxa66e6 : String := "java/util/SequencedCollection"
def TJxa66e6 : u_T := fun k => match k with
  | _ => ("", "", "", false)
def tyJxa66e6 : Nat → FieldType := fun k => match k with
  | _ => .int
theorem nmJxa66e6 : ∀ a, a < 0 → ∀ b, b < 0 → a ≠ b → (TJxa66e6 a).2.1 ≠ (TJxa66e6 b).2.1 := by decide +kernel
theorem tyJxa66e6_ok : ∀ k, k < 0 → parseFieldDescriptor (TJxa66e6 k).2.2.1 = some (tyJxa66e6 k) := by decide +kernel
def RJ8 : String := "jdk/internal/util/ArraysSupport"
def TJ8 : u_T := fun k => match k with
  | _ => ("", "", "", false)
def tyJ8 : Nat → FieldType := fun k => match k with
  | _ => .int
theorem nmJ8 : ∀ a, a < 0 → ∀ b, b < 0 → a ≠ b → (TJ8 a).2.1 ≠ (TJ8 b).2.1 := by decide +kernel
theorem tyJ8_ok : ∀ k, k < 0 → parseFieldDescriptor (TJ8 k).2.2.1 = some (tyJ8 k) := by decide +kernel
abbrev cJ8_newLength_cabcc : ByteArray := prog_51_method_27_code
def yJ8_newLength_cabcc : MethodName := ⟨RJ8, "newLength", "(III)I"⟩
abbrev cJ8_hugeLength_7cf53 : ByteArray := prog_51_method_28_code
def yJ8_hugeLength_7cf53 : MethodName := ⟨RJ8, "hugeLength", "(II)I"⟩
def RJ3 : String := "jdk/internal/util/Preconditions"
def TJ3 : u_T := fun k => match k with
  | _ => ("", "", "", false)
def tyJ3 : Nat → FieldType := fun k => match k with
  | _ => .int
theorem nmJ3 : ∀ a, a < 0 → ∀ b, b < 0 → a ≠ b → (TJ3 a).2.1 ≠ (TJ3 b).2.1 := by decide +kernel
theorem tyJ3_ok : ∀ k, k < 0 → parseFieldDescriptor (TJ3 k).2.2.1 = some (tyJ3 k) := by decide +kernel
abbrev cJ3_checkIndex_8e157 : ByteArray := prog_52_method_11_code
def yJ3_checkIndex_8e157 : MethodName := ⟨RJ3, "checkIndex", "(IILjava/util/function/BiFunction;)I"⟩
abbrev cJ3_checkFromToIndex_8c36e : ByteArray := prog_52_method_12_code
def yJ3_checkFromToIndex_8c36e : MethodName := ⟨RJ3, "checkFromToIndex", "(IIILjava/util/function/BiFunction;)I"⟩
def RL : String := "WritebackLaw"
abbrev cL_addFile : ByteArray := method_3_code
def yL_addFile : MethodName := ⟨RL, "addFile", "(LWriteback;I[J)I"⟩
abbrev cL_setFrames : ByteArray := method_4_code
def yL_setFrames : MethodName := ⟨RL, "setFrames", "(LWriteback;I[J)I"⟩
abbrev cL_setPolicy : ByteArray := method_5_code
def yL_setPolicy : MethodName := ⟨RL, "setPolicy", "(LWriteback;C[J)I"⟩
abbrev cL_setLimit : ByteArray := method_6_code
def yL_setLimit : MethodName := ⟨RL, "setLimit", "(LWriteback;I[J)I"⟩
abbrev cL_setWindow : ByteArray := method_7_code
def yL_setWindow : MethodName := ⟨RL, "setWindow", "(LWriteback;I[J)I"⟩
abbrev cL_setTenant : ByteArray := method_8_code
def yL_setTenant : MethodName := ⟨RL, "setTenant", "(LWriteback;I[J)I"⟩
abbrev cL_read : ByteArray := method_9_code
def yL_read : MethodName := ⟨RL, "read", "(LWriteback;II[J)I"⟩
abbrev cL_write : ByteArray := method_10_code
def yL_write : MethodName := ⟨RL, "write", "(LWriteback;III[J)I"⟩
abbrev cL_pin : ByteArray := method_11_code
def yL_pin : MethodName := ⟨RL, "pin", "(LWriteback;II[J)I"⟩
abbrev cL_unpin : ByteArray := method_12_code
def yL_unpin : MethodName := ⟨RL, "unpin", "(LWriteback;II[J)I"⟩
abbrev cL_frameOf : ByteArray := method_13_code
def yL_frameOf : MethodName := ⟨RL, "frameOf", "(LWriteback;II[J)I"⟩
abbrev cL_isDirty : ByteArray := method_14_code
def yL_isDirty : MethodName := ⟨RL, "isDirty", "(LWriteback;II[J)I"⟩
abbrev cL_onPlace : ByteArray := method_15_code
def yL_onPlace : MethodName := ⟨RL, "onPlace", "(LWriteback;II[J)I"⟩
abbrev cL_begin : ByteArray := method_16_code
def yL_begin : MethodName := ⟨RL, "begin", "(LWriteback;[J)I"⟩
abbrev cL_commit : ByteArray := method_17_code
def yL_commit : MethodName := ⟨RL, "commit", "(LWriteback;[J)I"⟩
abbrev cL_abort : ByteArray := method_18_code
def yL_abort : MethodName := ⟨RL, "abort", "(LWriteback;[J)I"⟩
abbrev cL_checkpoint : ByteArray := method_19_code
def yL_checkpoint : MethodName := ⟨RL, "checkpoint", "(LWriteback;[J)I"⟩
abbrev cL_sync : ByteArray := method_20_code
def yL_sync : MethodName := ⟨RL, "sync", "(LWriteback;I[J)I"⟩
abbrev cL_failAt : ByteArray := method_21_code
def yL_failAt : MethodName := ⟨RL, "failAt", "(LWriteback;I[J)I"⟩
abbrev cL_fail : ByteArray := method_22_code
def yL_fail : MethodName := ⟨RL, "fail", "(LWriteback;[J)I"⟩
abbrev cL_powerOn : ByteArray := method_23_code
def yL_powerOn : MethodName := ⟨RL, "powerOn", "(LWriteback;[J)I"⟩
abbrev cL_damage : ByteArray := method_24_code
def yL_damage : MethodName := ⟨RL, "damage", "(LWriteback;III[J)I"⟩
abbrev cL_scrub : ByteArray := method_25_code
def yL_scrub : MethodName := ⟨RL, "scrub", "(LWriteback;I[J)I"⟩
abbrev cL_keepImage : ByteArray := method_26_code
def yL_keepImage : MethodName := ⟨RL, "keepImage", "(LWriteback;I[J)I"⟩
abbrev cL_layBack : ByteArray := method_27_code
def yL_layBack : MethodName := ⟨RL, "layBack", "(LWriteback;II[J)I"⟩
abbrev cL_getWear : ByteArray := method_28_code
def yL_getWear : MethodName := ⟨RL, "getWear", "(LWriteback;I[J)I"⟩
abbrev cL_getBill : ByteArray := method_29_code
def yL_getBill : MethodName := ⟨RL, "getBill", "(LWriteback;I[J)I"⟩
abbrev cL_missesBy : ByteArray := method_30_code
def yL_missesBy : MethodName := ⟨RL, "missesBy", "(LWriteback;CI[J)I"⟩
abbrev cL_framesFor : ByteArray := method_31_code
def yL_framesFor : MethodName := ⟨RL, "framesFor", "(LWriteback;I[J)I"⟩
abbrev cL_getHitShare : ByteArray := method_32_code
def yL_getHitShare : MethodName := ⟨RL, "getHitShare", "(LWriteback;[D)I"⟩
abbrev cL_getHitBits : ByteArray := method_33_code
def yL_getHitBits : MethodName := ⟨RL, "getHitBits", "(LWriteback;[J)I"⟩
abbrev cL_getMeanCost : ByteArray := method_34_code
def yL_getMeanCost : MethodName := ⟨RL, "getMeanCost", "(LWriteback;[D)I"⟩
abbrev cL_law : ByteArray := code
def yL_law : MethodName := ⟨RL, "law", "([I)Z"⟩
abbrev vwCl : List vw_C := [(RJ0, TJ0, 2), (RJ6, TJ6, 1), (RJx00060, TJx00060, 6), (RJx4a65c, TJx4a65c, 3), (RX0, TX0, 5), (RX1, TX1, 6), (RX2, TX2, 3), (RX3, TX3, 13), (RX4, TX4, 3), (RX5, TX5, 3), (RX6, TX6, 4), (RX7, TX7, 6), (RX8, TX8, 3), (RX9, TX9, 16), (RX10, TX10, 3), (RX11, TX11, 12), (RX12, TX12, 29)]
