/-! words of the tables, and each class's (printed by wip/whole/gen.py) -/
theorem aw_t {w : Cond} {i : Nat} (h : tables_1[i]? = some w) (hg : goodWord w = true) : w ∈ AW := List.mem_filter.mpr ⟨List.mem_append_right _ (List.mem_of_getElem? h), hg⟩
theorem ow_t {w : Cond} {i : Nat} (h : tables_1[i]? = some w) (hg : okOW w = true) : w ∈ OW := List.mem_filter.mpr ⟨List.mem_append_right _ (List.mem_of_getElem? h), hg⟩
theorem aw_s {w : Cond} {i : Nat} (h : (k2_sels lw_privs)[i]? = some w) (hg : goodWord w = true) : w ∈ AW := List.mem_filter.mpr ⟨List.mem_append_left _ (List.mem_of_getElem? h), hg⟩
theorem okv_int : ∀ v : Int32, okv 0 v → narrow .int (.int v) = .int v ∧ fits .int (.int v) = true := fun _ _ => ⟨rfl, rfl⟩
theorem okv_bool : ∀ v : Int32, okv 3 v → narrow .boolean (.int v) = .int v ∧ fits .boolean (.int v) = true := fun v h => by
  rcases (h : v = 0 ∨ v = 1) with z | z <;> rw [z] <;> exact ⟨by decide, by decide⟩
theorem okC_nar {v : Int32} (h : okC v) : narrow .char (.int v) = .int v := by
  obtain ⟨j, hj, e⟩ := nI_of2 (M := 65535) (n := 65535) (by decide) (fun q => absurd h.1 (by rw [Int32.not_le]; exact q)) h.2
  rw [e]
  exact (pk_charN (by omega)).1
theorem okv_char : ∀ v : Int32, okv 4 v → narrow .char (.int v) = .int v ∧ fits .char (.int v) = true := fun v h => ⟨okC_nar h, by
  show (decide (0 ≤ v) && decide (v ≤ 65535)) = true
  rw [decide_eq_true (h : okC v).1, decide_eq_true (h : okC v).2]
  rfl⟩
theorem okv_ref {s : String} : ∀ v : Value, v = .null ∨ (∃ a, v = .ref a) → narrow (.object s) v = v ∧ fits (.object s) v = true := fun v h => by
  rcases h with z | ⟨a, z⟩ <;> rw [z] <;> exact ⟨rfl, rfl⟩
theorem okv_arr {t : FieldType} : ∀ v : Value, v = .null ∨ (∃ a, v = .ref a) → narrow (.array t) v = v ∧ fits (.array t) v = true := fun v h => by
  rcases h with z | ⟨a, z⟩ <;> rw [z] <;> exact ⟨rfl, rfl⟩
theorem okr_int : ∀ v, okv 0 v → narrow .int (.int v) = .int v := fun v h => (okv_int v h).1
theorem okr_bool : ∀ v, okv 3 v → narrow .boolean (.int v) = .int v := fun v h => (okv_bool v h).1
theorem okr_char : ∀ v, okv 4 v → narrow .char (.int v) = .int v := fun v h => (okv_char v h).1
theorem aw_oinit : Cond.code Lib.objectInit ⟨#[0xb1]⟩ 1 none ∈ AW := aw_t (i := 48) (by decide +kernel) rfl
theorem aw_abs : Cond.code Lib.Math.abs.name Lib.Math.abs.code 1 (some .int) ∈ AW := aw_t (i := 698) (by decide +kernel) rfl
theorem aw_max : Cond.code Lib.Math.max.name Lib.Math.max.code 2 (some .int) ∈ AW := aw_t (i := 943) (by decide +kernel) rfl
theorem aw_min : Cond.code Lib.Math.min.name Lib.Math.min.code 2 (some .int) ∈ AW := aw_t (i := 946) (by decide +kernel) rfl
theorem aw_111 : Cond.methodLink "Writeback$Frame" 3 ⟨"java/lang/Object", "<init>", "()V"⟩ ∈ AW := aw_t (i := 111) (by decide +kernel) rfl
theorem aw_47 : Cond.instanceMethod ⟨"java/lang/Object", "<init>", "()V"⟩ ∈ AW := aw_t (i := 47) (by decide +kernel) rfl
theorem aw_112 : Cond.fieldLink "Writeback$Frame" 9 "Writeback$Frame" "spot" "I" ∈ AW := aw_t (i := 112) (by decide +kernel) rfl
theorem aw_122 : Cond.fieldLink "Writeback$Frame" 15 "Writeback$Frame" "dirty" "Z" ∈ AW := aw_t (i := 122) (by decide +kernel) rfl
theorem aw_133 : Cond.fieldLink "Writeback$Frame" 19 "Writeback$Frame" "ofWork" "Z" ∈ AW := aw_t (i := 133) (by decide +kernel) rfl
theorem aw_119 : Cond.fieldLink "Writeback$Frame" 22 "Writeback$Frame" "pins" "I" ∈ AW := aw_t (i := 119) (by decide +kernel) rfl
theorem aw_131 : Cond.fieldLink "Writeback$Frame" 25 "Writeback$Frame" "ahead" "Z" ∈ AW := aw_t (i := 131) (by decide +kernel) rfl
theorem aw_136 : Cond.fieldLink "Writeback$Frame" 28 "Writeback$Frame" "fresh" "Z" ∈ AW := aw_t (i := 136) (by decide +kernel) rfl
theorem aw_116 : Cond.fieldLink "Writeback$Frame" 31 "Writeback$Frame" "value" "I" ∈ AW := aw_t (i := 116) (by decide +kernel) rfl
theorem aw_137 : Cond.fieldLink "Writeback$Frame" 34 "Writeback$Frame" "oldValue" "I" ∈ AW := aw_t (i := 137) (by decide +kernel) rfl
theorem aw_138 : Cond.fieldLink "Writeback$Frame" 37 "Writeback$Frame" "oldDirty" "Z" ∈ AW := aw_t (i := 138) (by decide +kernel) rfl
theorem aw_442 : Cond.code ⟨"Writeback$Frame", "drop", "()V"⟩ prog_5_method_4_code 1 none ∈ AW := aw_t (i := 442) (by decide +kernel) rfl
theorem aw_926 : Cond.methodLink "Writeback$Frame" 40 ⟨"Writeback$Frame", "drop", "()V"⟩ ∈ AW := aw_t (i := 926) (by decide +kernel) rfl
theorem aw_440 : Cond.instanceMethod ⟨"Writeback$Frame", "drop", "()V"⟩ ∈ AW := aw_t (i := 440) (by decide +kernel) rfl
theorem aw_441 : Cond.selects "Writeback$Frame" ⟨"Writeback$Frame", "drop", "()V"⟩ ⟨"Writeback$Frame", "drop", "()V"⟩ ∈ AW := aw_t (i := 441) (by decide +kernel) rfl
theorem aw_5 : Cond.initialized "Writeback$Frame" ∈ AW := aw_t (i := 5) (by decide +kernel) rfl
theorem aw_104 : Cond.methodLink "Writeback$Pool" 3 ⟨"java/lang/Object", "<init>", "()V"⟩ ∈ AW := aw_t (i := 104) (by decide +kernel) rfl
theorem aw_105 : Cond.classLink "Writeback$Pool" 9 "Writeback$Frame" ∈ AW := aw_t (i := 105) (by decide +kernel) rfl
theorem aw_166 : Cond.fieldLink "Writeback$Pool" 11 "Writeback$Pool" "frames" "[LWriteback$Frame;" ∈ AW := aw_t (i := 166) (by decide +kernel) rfl
theorem aw_107 : Cond.instantiable "Writeback$Frame" 13 ∈ AW := aw_t (i := 107) (by decide +kernel) rfl
theorem aw_108 : Cond.methodLinkNest "Writeback$Pool" 17 ⟨"Writeback$Frame", "<init>", "()V"⟩ "Writeback" ∈ OW := ow_t (i := 108) (by decide +kernel) rfl
theorem aw_110 : Cond.code ⟨"Writeback$Frame", "<init>", "()V"⟩ prog_5_method_1_code 1 none ∈ AW := aw_t (i := 110) (by decide +kernel) rfl
theorem aw_109 : Cond.instanceMethod ⟨"Writeback$Frame", "<init>", "()V"⟩ ∈ AW := aw_t (i := 109) (by decide +kernel) rfl
theorem aw_169 : Cond.fieldLink "Writeback$Pool" 18 "Writeback$Pool" "size" "I" ∈ AW := aw_t (i := 169) (by decide +kernel) rfl
theorem aw_172 : Cond.fieldLink "Writeback$Pool" 22 "Writeback$Pool" "hand" "I" ∈ AW := aw_t (i := 172) (by decide +kernel) rfl
theorem aw_113 : Cond.fieldLink "Writeback$Pool" 32 "Writeback$Frame" "spot" "I" ∈ AW := aw_t (i := 113) (by decide +kernel) rfl
theorem aw_402 : Cond.code ⟨"Writeback$Pool", "find", "(I)I"⟩ prog_8_method_4_code 3 (some .int) ∈ AW := aw_t (i := 402) (by decide +kernel) rfl
theorem aw_399 : Cond.methodLink "Writeback$Pool" 35 ⟨"Writeback$Pool", "find", "(I)I"⟩ ∈ AW := aw_t (i := 399) (by decide +kernel) rfl
theorem aw_400 : Cond.instanceMethod ⟨"Writeback$Pool", "find", "(I)I"⟩ ∈ AW := aw_t (i := 400) (by decide +kernel) rfl
theorem aw_401 : Cond.selects "Writeback$Pool" ⟨"Writeback$Pool", "find", "(I)I"⟩ ⟨"Writeback$Pool", "find", "(I)I"⟩ ∈ AW := aw_t (i := 401) (by decide +kernel) rfl
theorem aw_4 : Cond.initialized "Writeback$Pool" ∈ AW := aw_t (i := 4) (by decide +kernel) rfl
theorem aw_173 : Cond.fieldLink "Writeback$Pool" 29 "Writeback$Pool" "time" "I" ∈ AW := aw_t (i := 173) (by decide +kernel) rfl
theorem aw_127 : Cond.fieldLink "Writeback$Pool" 47 "Writeback$Frame" "used" "I" ∈ AW := aw_t (i := 127) (by decide +kernel) rfl
theorem aw_130 : Cond.fieldLink "Writeback$Pool" 50 "Writeback$Frame" "usedSinceHand" "Z" ∈ AW := aw_t (i := 130) (by decide +kernel) rfl
theorem aw_120 : Cond.fieldLink "Writeback$Pool" 67 "Writeback$Frame" "pins" "I" ∈ AW := aw_t (i := 120) (by decide +kernel) rfl
theorem aw_134 : Cond.fieldLink "Writeback$Pool" 70 "Writeback$Frame" "ofWork" "Z" ∈ AW := aw_t (i := 134) (by decide +kernel) rfl
theorem aw_123 : Cond.fieldLink "Writeback$Pool" 73 "Writeback$Frame" "dirty" "Z" ∈ AW := aw_t (i := 123) (by decide +kernel) rfl
theorem aw_439 : Cond.methodLink "Writeback$Pool" 54 ⟨"Writeback$Frame", "drop", "()V"⟩ ∈ AW := aw_t (i := 439) (by decide +kernel) rfl
theorem aw_438 : Cond.code ⟨"Writeback$Pool", "dropSpots", "(II)V"⟩ prog_8_method_9_code 4 none ∈ AW := aw_t (i := 438) (by decide +kernel) rfl
theorem aw_435 : Cond.methodLink "Writeback$Pool" 25 ⟨"Writeback$Pool", "dropSpots", "(II)V"⟩ ∈ AW := aw_t (i := 435) (by decide +kernel) rfl
theorem aw_436 : Cond.instanceMethod ⟨"Writeback$Pool", "dropSpots", "(II)V"⟩ ∈ AW := aw_t (i := 436) (by decide +kernel) rfl
theorem aw_437 : Cond.selects "Writeback$Pool" ⟨"Writeback$Pool", "dropSpots", "(II)V"⟩ ⟨"Writeback$Pool", "dropSpots", "(II)V"⟩ ∈ AW := aw_t (i := 437) (by decide +kernel) rfl
theorem aw_475 : Cond.code ⟨"Writeback$Pool", "canGo", "(IZI)Z"⟩ prog_8_method_11_code 5 (some .boolean) ∈ AW := aw_t (i := 475) (by decide +kernel) rfl
theorem aw_472 : Cond.methodLink "Writeback$Pool" 76 ⟨"Writeback$Pool", "canGo", "(IZI)Z"⟩ ∈ AW := aw_t (i := 472) (by decide +kernel) rfl
theorem aw_473 : Cond.instanceMethod ⟨"Writeback$Pool", "canGo", "(IZI)Z"⟩ ∈ AW := aw_t (i := 473) (by decide +kernel) rfl
theorem aw_474 : Cond.selects "Writeback$Pool" ⟨"Writeback$Pool", "canGo", "(IZI)Z"⟩ ⟨"Writeback$Pool", "canGo", "(IZI)Z"⟩ ∈ AW := aw_t (i := 474) (by decide +kernel) rfl
theorem aw_459 : Cond.code ⟨"Writeback$Pool", "lowestFree", "()I"⟩ prog_8_method_5_code 1 (some .int) ∈ AW := aw_t (i := 459) (by decide +kernel) rfl
theorem aw_760 : Cond.methodLink "Writeback$Pool" 39 ⟨"Writeback$Pool", "lowestFree", "()I"⟩ ∈ AW := aw_t (i := 760) (by decide +kernel) rfl
theorem aw_457 : Cond.instanceMethod ⟨"Writeback$Pool", "lowestFree", "()I"⟩ ∈ AW := aw_t (i := 457) (by decide +kernel) rfl
theorem aw_458 : Cond.selects "Writeback$Pool" ⟨"Writeback$Pool", "lowestFree", "()I"⟩ ⟨"Writeback$Pool", "lowestFree", "()I"⟩ ∈ AW := aw_t (i := 458) (by decide +kernel) rfl
theorem aw_471 : Cond.code ⟨"Writeback$Pool", "hasEvictable", "(ZI)Z"⟩ prog_8_method_12_code 4 (some .boolean) ∈ AW := aw_t (i := 471) (by decide +kernel) rfl
theorem aw_468 : Cond.methodLink "Writeback$Pool" 43 ⟨"Writeback$Pool", "hasEvictable", "(ZI)Z"⟩ ∈ AW := aw_t (i := 468) (by decide +kernel) rfl
theorem aw_469 : Cond.instanceMethod ⟨"Writeback$Pool", "hasEvictable", "(ZI)Z"⟩ ∈ AW := aw_t (i := 469) (by decide +kernel) rfl
theorem aw_470 : Cond.selects "Writeback$Pool" ⟨"Writeback$Pool", "hasEvictable", "(ZI)Z"⟩ ⟨"Writeback$Pool", "hasEvictable", "(ZI)Z"⟩ ∈ AW := aw_t (i := 470) (by decide +kernel) rfl
theorem aw_117 : Cond.fieldLink "Writeback$Pool" 57 "Writeback$Frame" "value" "I" ∈ AW := aw_t (i := 117) (by decide +kernel) rfl
theorem aw_451 : Cond.code ⟨"Writeback$Pool", "use", "(I)V"⟩ prog_8_method_7_code 2 none ∈ AW := aw_t (i := 451) (by decide +kernel) rfl
theorem aw_488 : Cond.methodLink "Writeback$Pool" 60 ⟨"Writeback$Pool", "use", "(I)V"⟩ ∈ AW := aw_t (i := 488) (by decide +kernel) rfl
theorem aw_449 : Cond.instanceMethod ⟨"Writeback$Pool", "use", "(I)V"⟩ ∈ AW := aw_t (i := 449) (by decide +kernel) rfl
theorem aw_450 : Cond.selects "Writeback$Pool" ⟨"Writeback$Pool", "use", "(I)V"⟩ ⟨"Writeback$Pool", "use", "(I)V"⟩ ∈ AW := aw_t (i := 450) (by decide +kernel) rfl
theorem aw_129 : Cond.fieldLink "Writeback$Pool" 64 "Writeback$Frame" "came" "I" ∈ AW := aw_t (i := 129) (by decide +kernel) rfl
theorem aw_479 : Cond.code ⟨"Writeback$Pool", "sweep", "(ZI)I"⟩ prog_8_method_15_code 5 (some .int) ∈ AW := aw_t (i := 479) (by decide +kernel) rfl
theorem aw_476 : Cond.methodLink "Writeback$Pool" 80 ⟨"Writeback$Pool", "sweep", "(ZI)I"⟩ ∈ AW := aw_t (i := 476) (by decide +kernel) rfl
theorem aw_477 : Cond.instanceMethod ⟨"Writeback$Pool", "sweep", "(ZI)I"⟩ ∈ AW := aw_t (i := 477) (by decide +kernel) rfl
theorem aw_478 : Cond.selects "Writeback$Pool" ⟨"Writeback$Pool", "sweep", "(ZI)I"⟩ ⟨"Writeback$Pool", "sweep", "(ZI)I"⟩ ∈ AW := aw_t (i := 478) (by decide +kernel) rfl
theorem aw_483 : Cond.code ⟨"Writeback$Pool", "oldest", "(CZI)I"⟩ prog_8_method_14_code 8 (some .int) ∈ AW := aw_t (i := 483) (by decide +kernel) rfl
theorem aw_480 : Cond.methodLink "Writeback$Pool" 84 ⟨"Writeback$Pool", "oldest", "(CZI)I"⟩ ∈ AW := aw_t (i := 480) (by decide +kernel) rfl
theorem aw_481 : Cond.instanceMethod ⟨"Writeback$Pool", "oldest", "(CZI)I"⟩ ∈ AW := aw_t (i := 481) (by decide +kernel) rfl
theorem aw_482 : Cond.selects "Writeback$Pool" ⟨"Writeback$Pool", "oldest", "(CZI)I"⟩ ⟨"Writeback$Pool", "oldest", "(CZI)I"⟩ ∈ AW := aw_t (i := 482) (by decide +kernel) rfl
theorem aw_347 : Cond.code ⟨"Writeback$Frame", "isFree", "()Z"⟩ prog_5_method_2_code 1 (some .boolean) ∈ AW := aw_t (i := 347) (by decide +kernel) rfl
theorem aw_344 : Cond.methodLink "Writeback$Pool" 88 ⟨"Writeback$Frame", "isFree", "()Z"⟩ ∈ AW := aw_t (i := 344) (by decide +kernel) rfl
theorem aw_345 : Cond.instanceMethod ⟨"Writeback$Frame", "isFree", "()Z"⟩ ∈ AW := aw_t (i := 345) (by decide +kernel) rfl
theorem aw_346 : Cond.selects "Writeback$Frame" ⟨"Writeback$Frame", "isFree", "()Z"⟩ ⟨"Writeback$Frame", "isFree", "()Z"⟩ ∈ AW := aw_t (i := 346) (by decide +kernel) rfl
theorem aw_828 : Cond.code ⟨"Writeback$Frame", "isPlainDirty", "()Z"⟩ prog_5_method_3_code 1 (some .boolean) ∈ AW := aw_t (i := 828) (by decide +kernel) rfl
theorem aw_825 : Cond.methodLink "Writeback$Pool" 92 ⟨"Writeback$Frame", "isPlainDirty", "()Z"⟩ ∈ AW := aw_t (i := 825) (by decide +kernel) rfl
theorem aw_826 : Cond.instanceMethod ⟨"Writeback$Frame", "isPlainDirty", "()Z"⟩ ∈ AW := aw_t (i := 826) (by decide +kernel) rfl
theorem aw_827 : Cond.selects "Writeback$Frame" ⟨"Writeback$Frame", "isPlainDirty", "()Z"⟩ ⟨"Writeback$Frame", "isPlainDirty", "()Z"⟩ ∈ AW := aw_t (i := 827) (by decide +kernel) rfl
theorem aw_125 : Cond.fieldLink "Writeback$Pool" 95 "Writeback$Frame" "since" "I" ∈ AW := aw_t (i := 125) (by decide +kernel) rfl
theorem aw_1151 : Cond.lays "java/util/ArrayList" "java/util/AbstractList" "modCount" "I" ∈ AW := aw_t (i := 1151) (by decide +kernel) rfl
theorem aw_1147 : Cond.lays "java/util/ArrayList" "java/util/ArrayList" "elementData" "[Ljava/lang/Object;" ∈ AW := aw_t (i := 1147) (by decide +kernel) rfl
theorem aw_1149 : Cond.lays "java/util/ArrayList" "java/util/ArrayList" "size" "I" ∈ AW := aw_t (i := 1149) (by decide +kernel) rfl
theorem aw_261 : Cond.lays "Writeback$Counts" "Writeback$Counts" "hits" "I" ∈ AW := aw_t (i := 261) (by decide +kernel) rfl
theorem aw_263 : Cond.lays "Writeback$Counts" "Writeback$Counts" "misses" "I" ∈ AW := aw_t (i := 263) (by decide +kernel) rfl
theorem aw_265 : Cond.lays "Writeback$Counts" "Writeback$Counts" "waits" "I" ∈ AW := aw_t (i := 265) (by decide +kernel) rfl
theorem aw_267 : Cond.lays "Writeback$Counts" "Writeback$Counts" "ahead" "I" ∈ AW := aw_t (i := 267) (by decide +kernel) rfl
theorem aw_269 : Cond.lays "Writeback$Counts" "Writeback$Counts" "useful" "I" ∈ AW := aw_t (i := 269) (by decide +kernel) rfl
theorem aw_66 : Cond.laysFinal "Writeback$Device" "Writeback$Device" "hasArm" "Z" ∈ AW := aw_t (i := 66) (by decide +kernel) rfl
theorem aw_68 : Cond.laysFinal "Writeback$Device" "Writeback$Device" "values" "[I" ∈ AW := aw_t (i := 68) (by decide +kernel) rfl
theorem aw_70 : Cond.laysFinal "Writeback$Device" "Writeback$Device" "sums" "[I" ∈ AW := aw_t (i := 70) (by decide +kernel) rfl
theorem aw_72 : Cond.laysFinal "Writeback$Device" "Writeback$Device" "wear" "[I" ∈ AW := aw_t (i := 72) (by decide +kernel) rfl
theorem aw_74 : Cond.lays "Writeback$Device" "Writeback$Device" "arm" "I" ∈ AW := aw_t (i := 74) (by decide +kernel) rfl
theorem aw_76 : Cond.lays "Writeback$Device" "Writeback$Device" "files" "I" ∈ AW := aw_t (i := 76) (by decide +kernel) rfl
theorem aw_92 : Cond.laysFinal "Writeback$Files" "Writeback$Files" "homes" "[I" ∈ AW := aw_t (i := 92) (by decide +kernel) rfl
theorem aw_94 : Cond.laysFinal "Writeback$Files" "Writeback$Files" "lastRead" "[I" ∈ AW := aw_t (i := 94) (by decide +kernel) rfl
theorem aw_96 : Cond.lays "Writeback$Files" "Writeback$Files" "count" "I" ∈ AW := aw_t (i := 96) (by decide +kernel) rfl
theorem aw_139 : Cond.lays "Writeback$Frame" "Writeback$Frame" "spot" "I" ∈ AW := aw_t (i := 139) (by decide +kernel) rfl
theorem aw_141 : Cond.lays "Writeback$Frame" "Writeback$Frame" "value" "I" ∈ AW := aw_t (i := 141) (by decide +kernel) rfl
theorem aw_143 : Cond.lays "Writeback$Frame" "Writeback$Frame" "pins" "I" ∈ AW := aw_t (i := 143) (by decide +kernel) rfl
theorem aw_145 : Cond.lays "Writeback$Frame" "Writeback$Frame" "dirty" "Z" ∈ AW := aw_t (i := 145) (by decide +kernel) rfl
theorem aw_147 : Cond.lays "Writeback$Frame" "Writeback$Frame" "since" "I" ∈ AW := aw_t (i := 147) (by decide +kernel) rfl
theorem aw_149 : Cond.lays "Writeback$Frame" "Writeback$Frame" "used" "I" ∈ AW := aw_t (i := 149) (by decide +kernel) rfl
theorem aw_151 : Cond.lays "Writeback$Frame" "Writeback$Frame" "came" "I" ∈ AW := aw_t (i := 151) (by decide +kernel) rfl
theorem aw_153 : Cond.lays "Writeback$Frame" "Writeback$Frame" "usedSinceHand" "Z" ∈ AW := aw_t (i := 153) (by decide +kernel) rfl
theorem aw_155 : Cond.lays "Writeback$Frame" "Writeback$Frame" "ahead" "Z" ∈ AW := aw_t (i := 155) (by decide +kernel) rfl
theorem aw_157 : Cond.lays "Writeback$Frame" "Writeback$Frame" "ofWork" "Z" ∈ AW := aw_t (i := 157) (by decide +kernel) rfl
theorem aw_159 : Cond.lays "Writeback$Frame" "Writeback$Frame" "fresh" "Z" ∈ AW := aw_t (i := 159) (by decide +kernel) rfl
theorem aw_161 : Cond.lays "Writeback$Frame" "Writeback$Frame" "oldValue" "I" ∈ AW := aw_t (i := 161) (by decide +kernel) rfl
theorem aw_163 : Cond.lays "Writeback$Frame" "Writeback$Frame" "oldDirty" "Z" ∈ AW := aw_t (i := 163) (by decide +kernel) rfl
theorem aw_1015 : Cond.laysFinal "Writeback$Image" "Writeback$Image" "device" "I" ∈ AW := aw_t (i := 1015) (by decide +kernel) rfl
theorem aw_1017 : Cond.laysFinal "Writeback$Image" "Writeback$Image" "values" "[I" ∈ AW := aw_t (i := 1017) (by decide +kernel) rfl
theorem aw_1019 : Cond.laysFinal "Writeback$Image" "Writeback$Image" "sums" "[I" ∈ AW := aw_t (i := 1019) (by decide +kernel) rfl
theorem aw_195 : Cond.laysFinal "Writeback$Log" "Writeback$Log" "has" "[Z" ∈ AW := aw_t (i := 195) (by decide +kernel) rfl
theorem aw_197 : Cond.laysFinal "Writeback$Log" "Writeback$Log" "values" "[I" ∈ AW := aw_t (i := 197) (by decide +kernel) rfl
theorem aw_199 : Cond.lays "Writeback$Log" "Writeback$Log" "size" "I" ∈ AW := aw_t (i := 199) (by decide +kernel) rfl
theorem aw_174 : Cond.laysFinal "Writeback$Pool" "Writeback$Pool" "frames" "[LWriteback$Frame;" ∈ AW := aw_t (i := 174) (by decide +kernel) rfl
theorem aw_176 : Cond.lays "Writeback$Pool" "Writeback$Pool" "size" "I" ∈ AW := aw_t (i := 176) (by decide +kernel) rfl
theorem aw_178 : Cond.lays "Writeback$Pool" "Writeback$Pool" "hand" "I" ∈ AW := aw_t (i := 178) (by decide +kernel) rfl
theorem aw_180 : Cond.lays "Writeback$Pool" "Writeback$Pool" "time" "I" ∈ AW := aw_t (i := 180) (by decide +kernel) rfl
theorem aw_235 : Cond.laysFinal "Writeback$Trace" "Writeback$Trace" "pages" "[I" ∈ AW := aw_t (i := 235) (by decide +kernel) rfl
theorem aw_237 : Cond.lays "Writeback$Trace" "Writeback$Trace" "length" "I" ∈ AW := aw_t (i := 237) (by decide +kernel) rfl
theorem aw_239 : Cond.laysFinal "Writeback$Trace" "Writeback$Trace" "following" "[I" ∈ AW := aw_t (i := 239) (by decide +kernel) rfl
theorem aw_241 : Cond.laysFinal "Writeback$Trace" "Writeback$Trace" "seen" "[I" ∈ AW := aw_t (i := 241) (by decide +kernel) rfl
theorem aw_243 : Cond.laysFinal "Writeback$Trace" "Writeback$Trace" "nexts" "[I" ∈ AW := aw_t (i := 243) (by decide +kernel) rfl
theorem aw_245 : Cond.laysFinal "Writeback$Trace" "Writeback$Trace" "pool" "LWriteback$Pool;" ∈ AW := aw_t (i := 245) (by decide +kernel) rfl
theorem aw_214 : Cond.lays "Writeback$Work" "Writeback$Work" "going" "Z" ∈ AW := aw_t (i := 214) (by decide +kernel) rfl
theorem aw_216 : Cond.lays "Writeback$Work" "Writeback$Work" "begun" "I" ∈ AW := aw_t (i := 216) (by decide +kernel) rfl
theorem aw_218 : Cond.lays "Writeback$Work" "Writeback$Work" "written" "I" ∈ AW := aw_t (i := 218) (by decide +kernel) rfl
theorem aw_290 : Cond.laysFinal "Writeback" "Writeback" "devices" "[LWriteback$Device;" ∈ AW := aw_t (i := 290) (by decide +kernel) rfl
theorem aw_292 : Cond.laysFinal "Writeback" "Writeback" "files" "LWriteback$Files;" ∈ AW := aw_t (i := 292) (by decide +kernel) rfl
theorem aw_294 : Cond.laysFinal "Writeback" "Writeback" "pool" "LWriteback$Pool;" ∈ AW := aw_t (i := 294) (by decide +kernel) rfl
theorem aw_296 : Cond.laysFinal "Writeback" "Writeback" "log" "LWriteback$Log;" ∈ AW := aw_t (i := 296) (by decide +kernel) rfl
theorem aw_298 : Cond.laysFinal "Writeback" "Writeback" "work" "LWriteback$Work;" ∈ AW := aw_t (i := 298) (by decide +kernel) rfl
theorem aw_300 : Cond.laysFinal "Writeback" "Writeback" "trace" "LWriteback$Trace;" ∈ AW := aw_t (i := 300) (by decide +kernel) rfl
theorem aw_302 : Cond.laysFinal "Writeback" "Writeback" "counts" "LWriteback$Counts;" ∈ AW := aw_t (i := 302) (by decide +kernel) rfl
theorem aw_304 : Cond.laysFinal "Writeback" "Writeback" "images" "[LWriteback$Image;" ∈ AW := aw_t (i := 304) (by decide +kernel) rfl
theorem aw_306 : Cond.lays "Writeback" "Writeback" "imagesKept" "I" ∈ AW := aw_t (i := 306) (by decide +kernel) rfl
theorem aw_308 : Cond.laysFinal "Writeback" "Writeback" "bills" "[J" ∈ AW := aw_t (i := 308) (by decide +kernel) rfl
theorem aw_310 : Cond.lays "Writeback" "Writeback" "policy" "C" ∈ AW := aw_t (i := 310) (by decide +kernel) rfl
theorem aw_312 : Cond.lays "Writeback" "Writeback" "limit" "I" ∈ AW := aw_t (i := 312) (by decide +kernel) rfl
theorem aw_314 : Cond.lays "Writeback" "Writeback" "window" "I" ∈ AW := aw_t (i := 314) (by decide +kernel) rfl
theorem aw_316 : Cond.lays "Writeback" "Writeback" "tenant" "I" ∈ AW := aw_t (i := 316) (by decide +kernel) rfl
theorem aw_318 : Cond.lays "Writeback" "Writeback" "powered" "Z" ∈ AW := aw_t (i := 318) (by decide +kernel) rfl
theorem aw_320 : Cond.lays "Writeback" "Writeback" "writesLeft" "I" ∈ AW := aw_t (i := 320) (by decide +kernel) rfl
theorem aw_1656 : Cond.laysFinal "WritebackModel$Image" "WritebackModel$Image" "device" "I" ∈ AW := aw_t (i := 1656) (by decide +kernel) rfl
theorem aw_1658 : Cond.laysFinal "WritebackModel$Image" "WritebackModel$Image" "values" "[I" ∈ AW := aw_t (i := 1658) (by decide +kernel) rfl
theorem aw_1660 : Cond.laysFinal "WritebackModel$Image" "WritebackModel$Image" "sums" "[I" ∈ AW := aw_t (i := 1660) (by decide +kernel) rfl
theorem aw_1508 : Cond.laysFinal "WritebackModel$Page" "WritebackModel$Page" "place" "I" ∈ AW := aw_t (i := 1508) (by decide +kernel) rfl
theorem aw_1510 : Cond.lays "WritebackModel$Page" "WritebackModel$Page" "value" "I" ∈ AW := aw_t (i := 1510) (by decide +kernel) rfl
theorem aw_1512 : Cond.lays "WritebackModel$Page" "WritebackModel$Page" "pins" "I" ∈ AW := aw_t (i := 1512) (by decide +kernel) rfl
theorem aw_1514 : Cond.lays "WritebackModel$Page" "WritebackModel$Page" "since" "J" ∈ AW := aw_t (i := 1514) (by decide +kernel) rfl
theorem aw_1516 : Cond.lays "WritebackModel$Page" "WritebackModel$Page" "used" "J" ∈ AW := aw_t (i := 1516) (by decide +kernel) rfl
theorem aw_1518 : Cond.lays "WritebackModel$Page" "WritebackModel$Page" "came" "J" ∈ AW := aw_t (i := 1518) (by decide +kernel) rfl
theorem aw_1520 : Cond.lays "WritebackModel$Page" "WritebackModel$Page" "isMarked" "Z" ∈ AW := aw_t (i := 1520) (by decide +kernel) rfl
theorem aw_1522 : Cond.lays "WritebackModel$Page" "WritebackModel$Page" "isAhead" "Z" ∈ AW := aw_t (i := 1522) (by decide +kernel) rfl
theorem aw_1524 : Cond.lays "WritebackModel$Page" "WritebackModel$Page" "isOurs" "Z" ∈ AW := aw_t (i := 1524) (by decide +kernel) rfl
theorem aw_1526 : Cond.lays "WritebackModel$Page" "WritebackModel$Page" "valueBefore" "I" ∈ AW := aw_t (i := 1526) (by decide +kernel) rfl
theorem aw_1528 : Cond.lays "WritebackModel$Page" "WritebackModel$Page" "sinceBefore" "J" ∈ AW := aw_t (i := 1528) (by decide +kernel) rfl
theorem aw_1530 : Cond.lays "WritebackModel$Page" "WritebackModel$Page" "isNew" "Z" ∈ AW := aw_t (i := 1530) (by decide +kernel) rfl
theorem aw_1185 : Cond.lays "WritebackModel" "WritebackModel" "thrown" "I" ∈ AW := aw_t (i := 1185) (by decide +kernel) rfl
theorem aw_1187 : Cond.laysFinal "WritebackModel" "WritebackModel" "values" "[I" ∈ AW := aw_t (i := 1187) (by decide +kernel) rfl
theorem aw_1189 : Cond.laysFinal "WritebackModel" "WritebackModel" "sums" "[I" ∈ AW := aw_t (i := 1189) (by decide +kernel) rfl
theorem aw_1191 : Cond.laysFinal "WritebackModel" "WritebackModel" "wear" "[I" ∈ AW := aw_t (i := 1191) (by decide +kernel) rfl
theorem aw_1193 : Cond.laysFinal "WritebackModel" "WritebackModel" "files" "Ljava/util/ArrayList;" ∈ AW := aw_t (i := 1193) (by decide +kernel) rfl
theorem aw_1195 : Cond.laysFinal "WritebackModel" "WritebackModel" "lastRead" "[I" ∈ AW := aw_t (i := 1195) (by decide +kernel) rfl
theorem aw_1197 : Cond.laysFinal "WritebackModel" "WritebackModel" "onDevice" "[I" ∈ AW := aw_t (i := 1197) (by decide +kernel) rfl
theorem aw_1199 : Cond.laysFinal "WritebackModel" "WritebackModel" "pages" "[LWritebackModel$Page;" ∈ AW := aw_t (i := 1199) (by decide +kernel) rfl
theorem aw_1201 : Cond.lays "WritebackModel" "WritebackModel" "frames" "I" ∈ AW := aw_t (i := 1201) (by decide +kernel) rfl
theorem aw_1203 : Cond.lays "WritebackModel" "WritebackModel" "policy" "C" ∈ AW := aw_t (i := 1203) (by decide +kernel) rfl
theorem aw_1205 : Cond.lays "WritebackModel" "WritebackModel" "limit" "I" ∈ AW := aw_t (i := 1205) (by decide +kernel) rfl
theorem aw_1207 : Cond.lays "WritebackModel" "WritebackModel" "window" "I" ∈ AW := aw_t (i := 1207) (by decide +kernel) rfl
theorem aw_1209 : Cond.lays "WritebackModel" "WritebackModel" "tenant" "I" ∈ AW := aw_t (i := 1209) (by decide +kernel) rfl
theorem aw_1211 : Cond.lays "WritebackModel" "WritebackModel" "hand" "I" ∈ AW := aw_t (i := 1211) (by decide +kernel) rfl
theorem aw_1213 : Cond.lays "WritebackModel" "WritebackModel" "arm" "I" ∈ AW := aw_t (i := 1213) (by decide +kernel) rfl
theorem aw_1215 : Cond.laysFinal "WritebackModel" "WritebackModel" "bills" "[J" ∈ AW := aw_t (i := 1215) (by decide +kernel) rfl
theorem aw_1217 : Cond.laysFinal "WritebackModel" "WritebackModel" "log" "[I" ∈ AW := aw_t (i := 1217) (by decide +kernel) rfl
theorem aw_1219 : Cond.lays "WritebackModel" "WritebackModel" "goesOn" "Z" ∈ AW := aw_t (i := 1219) (by decide +kernel) rfl
theorem aw_1221 : Cond.lays "WritebackModel" "WritebackModel" "begun" "I" ∈ AW := aw_t (i := 1221) (by decide +kernel) rfl
theorem aw_1223 : Cond.lays "WritebackModel" "WritebackModel" "hasPower" "Z" ∈ AW := aw_t (i := 1223) (by decide +kernel) rfl
theorem aw_1225 : Cond.lays "WritebackModel" "WritebackModel" "toFail" "I" ∈ AW := aw_t (i := 1225) (by decide +kernel) rfl
theorem aw_1227 : Cond.laysFinal "WritebackModel" "WritebackModel" "images" "Ljava/util/ArrayList;" ∈ AW := aw_t (i := 1227) (by decide +kernel) rfl
theorem aw_1229 : Cond.laysFinal "WritebackModel" "WritebackModel" "trace" "Ljava/util/ArrayList;" ∈ AW := aw_t (i := 1229) (by decide +kernel) rfl
theorem aw_1231 : Cond.lays "WritebackModel" "WritebackModel" "hits" "I" ∈ AW := aw_t (i := 1231) (by decide +kernel) rfl
theorem aw_1233 : Cond.lays "WritebackModel" "WritebackModel" "misses" "I" ∈ AW := aw_t (i := 1233) (by decide +kernel) rfl
theorem aw_1235 : Cond.lays "WritebackModel" "WritebackModel" "waits" "I" ∈ AW := aw_t (i := 1235) (by decide +kernel) rfl
theorem aw_1237 : Cond.lays "WritebackModel" "WritebackModel" "ahead" "I" ∈ AW := aw_t (i := 1237) (by decide +kernel) rfl
theorem aw_1239 : Cond.lays "WritebackModel" "WritebackModel" "useful" "I" ∈ AW := aw_t (i := 1239) (by decide +kernel) rfl
theorem aw_1241 : Cond.lays "WritebackModel" "WritebackModel" "clock" "J" ∈ AW := aw_t (i := 1241) (by decide +kernel) rfl
theorem hinJx4a65c : ∀ w ∈ u_ws RJx4a65c TJx4a65c 3, w ∈ AW := by
  intro w hw
  obtain ⟨k, hk, rfl⟩ := List.mem_map.mp hw
  rw [List.mem_range] at hk
  exact (lt_s (p := fun k => u_lay RJx4a65c TJx4a65c k ∈ AW) (lt_s (p := fun k => u_lay RJx4a65c TJx4a65c k ∈ AW) (lt_s (p := fun k => u_lay RJx4a65c TJx4a65c k ∈ AW) lt_0 aw_1151) aw_1147) aw_1149) k hk
theorem hinX0 : ∀ w ∈ u_ws RX0 TX0 5, w ∈ AW := by
  intro w hw
  obtain ⟨k, hk, rfl⟩ := List.mem_map.mp hw
  rw [List.mem_range] at hk
  exact (lt_s (p := fun k => u_lay RX0 TX0 k ∈ AW) (lt_s (p := fun k => u_lay RX0 TX0 k ∈ AW) (lt_s (p := fun k => u_lay RX0 TX0 k ∈ AW) (lt_s (p := fun k => u_lay RX0 TX0 k ∈ AW) (lt_s (p := fun k => u_lay RX0 TX0 k ∈ AW) lt_0 aw_261) aw_263) aw_265) aw_267) aw_269) k hk
theorem hinX1 : ∀ w ∈ u_ws RX1 TX1 6, w ∈ AW := by
  intro w hw
  obtain ⟨k, hk, rfl⟩ := List.mem_map.mp hw
  rw [List.mem_range] at hk
  exact (lt_s (p := fun k => u_lay RX1 TX1 k ∈ AW) (lt_s (p := fun k => u_lay RX1 TX1 k ∈ AW) (lt_s (p := fun k => u_lay RX1 TX1 k ∈ AW) (lt_s (p := fun k => u_lay RX1 TX1 k ∈ AW) (lt_s (p := fun k => u_lay RX1 TX1 k ∈ AW) (lt_s (p := fun k => u_lay RX1 TX1 k ∈ AW) lt_0 aw_66) aw_68) aw_70) aw_72) aw_74) aw_76) k hk
theorem hinX2 : ∀ w ∈ u_ws RX2 TX2 3, w ∈ AW := by
  intro w hw
  obtain ⟨k, hk, rfl⟩ := List.mem_map.mp hw
  rw [List.mem_range] at hk
  exact (lt_s (p := fun k => u_lay RX2 TX2 k ∈ AW) (lt_s (p := fun k => u_lay RX2 TX2 k ∈ AW) (lt_s (p := fun k => u_lay RX2 TX2 k ∈ AW) lt_0 aw_92) aw_94) aw_96) k hk
theorem hinX3 : ∀ w ∈ u_ws RX3 TX3 13, w ∈ AW := by
  intro w hw
  obtain ⟨k, hk, rfl⟩ := List.mem_map.mp hw
  rw [List.mem_range] at hk
  exact (lt_s (p := fun k => u_lay RX3 TX3 k ∈ AW) (lt_s (p := fun k => u_lay RX3 TX3 k ∈ AW) (lt_s (p := fun k => u_lay RX3 TX3 k ∈ AW) (lt_s (p := fun k => u_lay RX3 TX3 k ∈ AW) (lt_s (p := fun k => u_lay RX3 TX3 k ∈ AW) (lt_s (p := fun k => u_lay RX3 TX3 k ∈ AW) (lt_s (p := fun k => u_lay RX3 TX3 k ∈ AW) (lt_s (p := fun k => u_lay RX3 TX3 k ∈ AW) (lt_s (p := fun k => u_lay RX3 TX3 k ∈ AW) (lt_s (p := fun k => u_lay RX3 TX3 k ∈ AW) (lt_s (p := fun k => u_lay RX3 TX3 k ∈ AW) (lt_s (p := fun k => u_lay RX3 TX3 k ∈ AW) (lt_s (p := fun k => u_lay RX3 TX3 k ∈ AW) lt_0 aw_139) aw_141) aw_143) aw_145) aw_147) aw_149) aw_151) aw_153) aw_155) aw_157) aw_159) aw_161) aw_163) k hk
theorem hinX4 : ∀ w ∈ u_ws RX4 TX4 3, w ∈ AW := by
  intro w hw
  obtain ⟨k, hk, rfl⟩ := List.mem_map.mp hw
  rw [List.mem_range] at hk
  exact (lt_s (p := fun k => u_lay RX4 TX4 k ∈ AW) (lt_s (p := fun k => u_lay RX4 TX4 k ∈ AW) (lt_s (p := fun k => u_lay RX4 TX4 k ∈ AW) lt_0 aw_1015) aw_1017) aw_1019) k hk
theorem hinX5 : ∀ w ∈ u_ws RX5 TX5 3, w ∈ AW := by
  intro w hw
  obtain ⟨k, hk, rfl⟩ := List.mem_map.mp hw
  rw [List.mem_range] at hk
  exact (lt_s (p := fun k => u_lay RX5 TX5 k ∈ AW) (lt_s (p := fun k => u_lay RX5 TX5 k ∈ AW) (lt_s (p := fun k => u_lay RX5 TX5 k ∈ AW) lt_0 aw_195) aw_197) aw_199) k hk
theorem hinX6 : ∀ w ∈ u_ws RX6 TX6 4, w ∈ AW := by
  intro w hw
  obtain ⟨k, hk, rfl⟩ := List.mem_map.mp hw
  rw [List.mem_range] at hk
  exact (lt_s (p := fun k => u_lay RX6 TX6 k ∈ AW) (lt_s (p := fun k => u_lay RX6 TX6 k ∈ AW) (lt_s (p := fun k => u_lay RX6 TX6 k ∈ AW) (lt_s (p := fun k => u_lay RX6 TX6 k ∈ AW) lt_0 aw_174) aw_176) aw_178) aw_180) k hk
theorem hinX7 : ∀ w ∈ u_ws RX7 TX7 6, w ∈ AW := by
  intro w hw
  obtain ⟨k, hk, rfl⟩ := List.mem_map.mp hw
  rw [List.mem_range] at hk
  exact (lt_s (p := fun k => u_lay RX7 TX7 k ∈ AW) (lt_s (p := fun k => u_lay RX7 TX7 k ∈ AW) (lt_s (p := fun k => u_lay RX7 TX7 k ∈ AW) (lt_s (p := fun k => u_lay RX7 TX7 k ∈ AW) (lt_s (p := fun k => u_lay RX7 TX7 k ∈ AW) (lt_s (p := fun k => u_lay RX7 TX7 k ∈ AW) lt_0 aw_235) aw_237) aw_239) aw_241) aw_243) aw_245) k hk
theorem hinX8 : ∀ w ∈ u_ws RX8 TX8 3, w ∈ AW := by
  intro w hw
  obtain ⟨k, hk, rfl⟩ := List.mem_map.mp hw
  rw [List.mem_range] at hk
  exact (lt_s (p := fun k => u_lay RX8 TX8 k ∈ AW) (lt_s (p := fun k => u_lay RX8 TX8 k ∈ AW) (lt_s (p := fun k => u_lay RX8 TX8 k ∈ AW) lt_0 aw_214) aw_216) aw_218) k hk
theorem hinX9 : ∀ w ∈ u_ws RX9 TX9 16, w ∈ AW := by
  intro w hw
  obtain ⟨k, hk, rfl⟩ := List.mem_map.mp hw
  rw [List.mem_range] at hk
  exact (lt_s (p := fun k => u_lay RX9 TX9 k ∈ AW) (lt_s (p := fun k => u_lay RX9 TX9 k ∈ AW) (lt_s (p := fun k => u_lay RX9 TX9 k ∈ AW) (lt_s (p := fun k => u_lay RX9 TX9 k ∈ AW) (lt_s (p := fun k => u_lay RX9 TX9 k ∈ AW) (lt_s (p := fun k => u_lay RX9 TX9 k ∈ AW) (lt_s (p := fun k => u_lay RX9 TX9 k ∈ AW) (lt_s (p := fun k => u_lay RX9 TX9 k ∈ AW) (lt_s (p := fun k => u_lay RX9 TX9 k ∈ AW) (lt_s (p := fun k => u_lay RX9 TX9 k ∈ AW) (lt_s (p := fun k => u_lay RX9 TX9 k ∈ AW) (lt_s (p := fun k => u_lay RX9 TX9 k ∈ AW) (lt_s (p := fun k => u_lay RX9 TX9 k ∈ AW) (lt_s (p := fun k => u_lay RX9 TX9 k ∈ AW) (lt_s (p := fun k => u_lay RX9 TX9 k ∈ AW) (lt_s (p := fun k => u_lay RX9 TX9 k ∈ AW) lt_0 aw_290) aw_292) aw_294) aw_296) aw_298) aw_300) aw_302) aw_304) aw_306) aw_308) aw_310) aw_312) aw_314) aw_316) aw_318) aw_320) k hk
theorem hinX10 : ∀ w ∈ u_ws RX10 TX10 3, w ∈ AW := by
  intro w hw
  obtain ⟨k, hk, rfl⟩ := List.mem_map.mp hw
  rw [List.mem_range] at hk
  exact (lt_s (p := fun k => u_lay RX10 TX10 k ∈ AW) (lt_s (p := fun k => u_lay RX10 TX10 k ∈ AW) (lt_s (p := fun k => u_lay RX10 TX10 k ∈ AW) lt_0 aw_1656) aw_1658) aw_1660) k hk
theorem hinX11 : ∀ w ∈ u_ws RX11 TX11 12, w ∈ AW := by
  intro w hw
  obtain ⟨k, hk, rfl⟩ := List.mem_map.mp hw
  rw [List.mem_range] at hk
  exact (lt_s (p := fun k => u_lay RX11 TX11 k ∈ AW) (lt_s (p := fun k => u_lay RX11 TX11 k ∈ AW) (lt_s (p := fun k => u_lay RX11 TX11 k ∈ AW) (lt_s (p := fun k => u_lay RX11 TX11 k ∈ AW) (lt_s (p := fun k => u_lay RX11 TX11 k ∈ AW) (lt_s (p := fun k => u_lay RX11 TX11 k ∈ AW) (lt_s (p := fun k => u_lay RX11 TX11 k ∈ AW) (lt_s (p := fun k => u_lay RX11 TX11 k ∈ AW) (lt_s (p := fun k => u_lay RX11 TX11 k ∈ AW) (lt_s (p := fun k => u_lay RX11 TX11 k ∈ AW) (lt_s (p := fun k => u_lay RX11 TX11 k ∈ AW) (lt_s (p := fun k => u_lay RX11 TX11 k ∈ AW) lt_0 aw_1508) aw_1510) aw_1512) aw_1514) aw_1516) aw_1518) aw_1520) aw_1522) aw_1524) aw_1526) aw_1528) aw_1530) k hk
theorem hinX12 : ∀ w ∈ u_ws RX12 TX12 29, w ∈ AW := by
  intro w hw
  obtain ⟨k, hk, rfl⟩ := List.mem_map.mp hw
  rw [List.mem_range] at hk
  exact (lt_s (p := fun k => u_lay RX12 TX12 k ∈ AW) (lt_s (p := fun k => u_lay RX12 TX12 k ∈ AW) (lt_s (p := fun k => u_lay RX12 TX12 k ∈ AW) (lt_s (p := fun k => u_lay RX12 TX12 k ∈ AW) (lt_s (p := fun k => u_lay RX12 TX12 k ∈ AW) (lt_s (p := fun k => u_lay RX12 TX12 k ∈ AW) (lt_s (p := fun k => u_lay RX12 TX12 k ∈ AW) (lt_s (p := fun k => u_lay RX12 TX12 k ∈ AW) (lt_s (p := fun k => u_lay RX12 TX12 k ∈ AW) (lt_s (p := fun k => u_lay RX12 TX12 k ∈ AW) (lt_s (p := fun k => u_lay RX12 TX12 k ∈ AW) (lt_s (p := fun k => u_lay RX12 TX12 k ∈ AW) (lt_s (p := fun k => u_lay RX12 TX12 k ∈ AW) (lt_s (p := fun k => u_lay RX12 TX12 k ∈ AW) (lt_s (p := fun k => u_lay RX12 TX12 k ∈ AW) (lt_s (p := fun k => u_lay RX12 TX12 k ∈ AW) (lt_s (p := fun k => u_lay RX12 TX12 k ∈ AW) (lt_s (p := fun k => u_lay RX12 TX12 k ∈ AW) (lt_s (p := fun k => u_lay RX12 TX12 k ∈ AW) (lt_s (p := fun k => u_lay RX12 TX12 k ∈ AW) (lt_s (p := fun k => u_lay RX12 TX12 k ∈ AW) (lt_s (p := fun k => u_lay RX12 TX12 k ∈ AW) (lt_s (p := fun k => u_lay RX12 TX12 k ∈ AW) (lt_s (p := fun k => u_lay RX12 TX12 k ∈ AW) (lt_s (p := fun k => u_lay RX12 TX12 k ∈ AW) (lt_s (p := fun k => u_lay RX12 TX12 k ∈ AW) (lt_s (p := fun k => u_lay RX12 TX12 k ∈ AW) (lt_s (p := fun k => u_lay RX12 TX12 k ∈ AW) (lt_s (p := fun k => u_lay RX12 TX12 k ∈ AW) lt_0 aw_1185) aw_1187) aw_1189) aw_1191) aw_1193) aw_1195) aw_1197) aw_1199) aw_1201) aw_1203) aw_1205) aw_1207) aw_1209) aw_1211) aw_1213) aw_1215) aw_1217) aw_1219) aw_1221) aw_1223) aw_1225) aw_1227) aw_1229) aw_1231) aw_1233) aw_1235) aw_1237) aw_1239) aw_1241) k hk
/-- a code as a table -/
def tab (L : List (Nat × Sem)) (pc : Nat) : Sem := match L.find? (fun q => q.1 == pc) with
  | some q => q.2
  | none => k_no
def AllM : List (Nat × Sem) → Prop
  | [] => True
  | q :: r => Mono q.2 ∧ AllM r
def AllS (y : MethodName) (cc : ByteArray) (maxL : Nat) (ret : Option FieldType) (rm : Room) : List (Nat × Sem) → Prop
  | [] => True
  | q :: r => SndM y cc maxL ret rm q.1 q.2 ∧ AllS y cc maxL ret rm r
theorem tab_cons (q : Nat × Sem) (L : List (Nat × Sem)) (pc : Nat) : tab (q :: L) pc = if q.1 = pc then q.2 else tab L pc := by
  unfold tab
  rw [List.find?_cons]
  by_cases h : q.1 = pc
  · have e : (q.1 == pc) = true := by simpa using h
    rw [if_pos h, e]
  · have e : (q.1 == pc) = false := by simpa using h
    rw [if_neg h, e]
theorem tab_mono : ∀ {L : List (Nat × Sem)}, AllM L → ∀ pc, Mono (tab L pc)
  | [], _, pc => mono_no
  | q :: r, h, pc => by
    rw [tab_cons]
    split
    · exact h.1
    · exact tab_mono h.2 pc
theorem tab_snd {y : MethodName} {cc : ByteArray} {maxL : Nat} {ret : Option FieldType} {rm : Room} : ∀ {L : List (Nat × Sem)}, AllS y cc maxL ret rm L → ∀ pc, SndM y cc maxL ret rm pc (tab L pc)
  | [], _, pc => fun _ _ _ _ _ _ _ _ _ _ _ _ _ _ _ _ _ => snd_no
  | q :: r, h, pc => by
    rw [tab_cons]
    split
    · next e => subst e; exact h.1
    · exact tab_snd h.2 pc
def wT (maxL : Nat) (L : List (Nat × Sem)) : WT := fun av h Q => (av.flatMap (fun v => if cat2 v = true then [v, Value.null] else [v])).length ≤ maxL ∧ wpI (tab L) Q 0 (ent maxL av) [] h 0 0
theorem UM.ofT {y : MethodName} {cc : ByteArray} {maxL : Nat} {ret : Option FieldType} {rm : Room} {L : List (Nat × Sem)} (hy : plainName y.cls = true) (hc : AllS y cc maxL ret rm L) : UM y cc maxL ret rm (wT maxL L) := UM.of hy (tab_snd hc)
theorem wT_mono {maxL : Nat} {L : List (Nat × Sem)} (hm : AllM L) : ∀ av h (Q Q' : QT), (∀ r h, Q r h → Q' r h) → wT maxL L av h Q → wT maxL L av h Q' := fun _ _ _ _ hQ k => ⟨k.1, wpI.mono (tab_mono hm) hQ k.2⟩
