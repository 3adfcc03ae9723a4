/-! words of the tables, and each class's (printed by wip/whole/gen.py) -/
theorem aw_t {w : Cond} {i : Nat} (h : tables_1[i]? = some w) (hg : goodWord w = true) : w ∈ AW := List.mem_filter.mpr ⟨List.mem_append_right _ (List.mem_of_getElem? h), hg⟩
theorem ow_t {w : Cond} {i : Nat} (h : tables_1[i]? = some w) (hg : okOW w = true) : w ∈ OW := List.mem_filter.mpr ⟨List.mem_append_right _ (List.mem_of_getElem? h), hg⟩
theorem aw_s {w : Cond} {i : Nat} (h : (k2_sels lw_privs)[i]? = some w) (hg : goodWord w = true) : w ∈ AW := List.mem_filter.mpr ⟨List.mem_append_left _ (List.mem_of_getElem? h), hg⟩
theorem in_tbl {L : List Cond} (ps : List Nat) (h : L = ps.filterMap (fun i => lw_tbl[i]?)) (hg : L.all (fun w => goodWord w || okOW w) = true) : ∀ w ∈ L, w ∈ AW ∨ w ∈ OW := fun w hw => by
  have h1 := List.all_eq_true.mp hg w hw
  rw [h] at hw
  obtain ⟨i, -, hi⟩ := List.mem_filterMap.mp hw
  have hm : w ∈ lw_tbl := List.mem_of_getElem? hi
  rcases Bool.or_eq_true_iff.mp h1 with q | q
  · exact Or.inl (List.mem_filter.mpr ⟨hm, q⟩)
  · exact Or.inr (List.mem_filter.mpr ⟨hm, q⟩)
theorem okv_int : ∀ v : Int32, okv 0 v → narrow .int (.int v) = .int v ∧ fits .int (.int v) = true := fun _ _ => ⟨rfl, rfl⟩
theorem okv_bool : ∀ v : Int32, okv 3 v → narrow .boolean (.int v) = .int v ∧ fits .boolean (.int v) = true := fun v h => by
  rcases (h : v = 0 ∨ v = 1) with z | z <;> rw [z] <;> exact ⟨by decide, by decide⟩
theorem okC_nar {v : Int32} (h : okC v) : narrow .char (.int v) = .int v := by
  obtain ⟨j, hj, e⟩ := nI_of2 (M := 65535) (n := 65535) (by decide) (fun q => absurd h.1 (by rw [Int32.not_le]; exact q)) h.2
  rw [e]
  exact (pk_charN (by omega)).1
theorem okv_char : ∀ v : Int32, okv 4 v → narrow .char (.int v) = .int v ∧ fits .char (.int v) = true := fun v h => ⟨okC_nar h, by
  show (decide (0 ≤ v) && decide (v ≤ 65535)) = true
  rw [decide_eq_true (h : okC v).1, decide_eq_true (h : okC v).2]
  rfl⟩
theorem okv_ref {s : String} : ∀ v : Value, v = .null ∨ (∃ a, v = .ref a) → narrow (.object s) v = v ∧ fits (.object s) v = true := fun v h => by
  rcases h with z | ⟨a, z⟩ <;> rw [z] <;> exact ⟨rfl, rfl⟩
theorem okv_arr {t : FieldType} : ∀ v : Value, v = .null ∨ (∃ a, v = .ref a) → narrow (.array t) v = v ∧ fits (.array t) v = true := fun v h => by
  rcases h with z | ⟨a, z⟩ <;> rw [z] <;> exact ⟨rfl, rfl⟩
theorem okr_int : ∀ v, okv 0 v → narrow .int (.int v) = .int v := fun v h => (okv_int v h).1
theorem okr_bool : ∀ v, okv 3 v → narrow .boolean (.int v) = .int v := fun v h => (okv_bool v h).1
theorem okr_char : ∀ v, okv 4 v → narrow .char (.int v) = .int v := fun v h => (okv_char v h).1
theorem aw_oinit : Cond.code Lib.objectInit ⟨#[0xb1]⟩ 1 none ∈ AW := aw_t (i := 48) (by decide +kernel) rfl
theorem aw_abs : Cond.code Lib.Math.abs.name Lib.Math.abs.code 1 (some .int) ∈ AW := aw_t (i := 698) (by decide +kernel) rfl
theorem aw_max : Cond.code Lib.Math.max.name Lib.Math.max.code 2 (some .int) ∈ AW := aw_t (i := 943) (by decide +kernel) rfl
theorem aw_min : Cond.code Lib.Math.min.name Lib.Math.min.code 2 (some .int) ∈ AW := aw_t (i := 946) (by decide +kernel) rfl
theorem aw_253 : Cond.methodLink "Writeback$Counts" 1 ⟨"java/lang/Object", "<init>", "()V"⟩ ∈ AW := aw_t (i := 253) (by decide +kernel) rfl
theorem aw_47 : Cond.instanceMethod ⟨"java/lang/Object", "<init>", "()V"⟩ ∈ AW := aw_t (i := 47) (by decide +kernel) rfl
theorem aw_254 : Cond.fieldLink "Writeback$Counts" 7 "Writeback$Counts" "hits" "I" ∈ AW := aw_t (i := 254) (by decide +kernel) rfl
theorem aw_256 : Cond.fieldLink "Writeback$Counts" 13 "Writeback$Counts" "misses" "I" ∈ AW := aw_t (i := 256) (by decide +kernel) rfl
theorem aw_55 : Cond.methodLink "Writeback$Device" 3 ⟨"java/lang/Object", "<init>", "()V"⟩ ∈ AW := aw_t (i := 55) (by decide +kernel) rfl
theorem aw_79 : Cond.arrayClass .int ∈ AW := aw_t (i := 79) (by decide +kernel) rfl
theorem aw_57 : Cond.fieldLink "Writeback$Device" 9 "Writeback$Device" "values" "[I" ∈ AW := aw_t (i := 57) (by decide +kernel) rfl
theorem aw_59 : Cond.fieldLink "Writeback$Device" 15 "Writeback$Device" "sums" "[I" ∈ AW := aw_t (i := 59) (by decide +kernel) rfl
theorem aw_61 : Cond.fieldLink "Writeback$Device" 18 "Writeback$Device" "wear" "[I" ∈ AW := aw_t (i := 61) (by decide +kernel) rfl
theorem aw_56 : Cond.fieldLink "Writeback$Device" 21 "Writeback$Device" "hasArm" "Z" ∈ AW := aw_t (i := 56) (by decide +kernel) rfl
theorem aw_63 : Cond.fieldLink "Writeback$Device" 25 "Writeback$Device" "arm" "I" ∈ AW := aw_t (i := 63) (by decide +kernel) rfl
theorem aw_696 : Cond.methodLink "Writeback$Device" 29 ⟨"java/lang/Math", "abs", "(I)I"⟩ ∈ AW := aw_t (i := 696) (by decide +kernel) rfl
theorem aw_697 : Cond.static ⟨"java/lang/Math", "abs", "(I)I"⟩ ∈ AW := aw_t (i := 697) (by decide +kernel) rfl
theorem aw_25 : Cond.initialized "java/lang/Math" ∈ AW := aw_t (i := 25) (by decide +kernel) rfl
theorem aw_414 : Cond.code ⟨"Writeback$Device", "isDamaged", "(I)Z"⟩ prog_3_method_4_code 2 (some .boolean) ∈ AW := aw_t (i := 414) (by decide +kernel) rfl
theorem aw_988 : Cond.methodLink "Writeback$Device" 35 ⟨"Writeback$Device", "isDamaged", "(I)Z"⟩ ∈ AW := aw_t (i := 988) (by decide +kernel) rfl
theorem aw_412 : Cond.instanceMethod ⟨"Writeback$Device", "isDamaged", "(I)Z"⟩ ∈ AW := aw_t (i := 412) (by decide +kernel) rfl
theorem aw_413 : Cond.selects "Writeback$Device" ⟨"Writeback$Device", "isDamaged", "(I)Z"⟩ ⟨"Writeback$Device", "isDamaged", "(I)Z"⟩ ∈ AW := aw_t (i := 413) (by decide +kernel) rfl
theorem aw_2 : Cond.initialized "Writeback$Device" ∈ AW := aw_t (i := 2) (by decide +kernel) rfl
theorem aw_85 : Cond.methodLink "Writeback$Files" 3 ⟨"java/lang/Object", "<init>", "()V"⟩ ∈ AW := aw_t (i := 85) (by decide +kernel) rfl
theorem aw_86 : Cond.fieldLink "Writeback$Files" 9 "Writeback$Files" "homes" "[I" ∈ AW := aw_t (i := 86) (by decide +kernel) rfl
theorem aw_88 : Cond.fieldLink "Writeback$Files" 15 "Writeback$Files" "lastRead" "[I" ∈ AW := aw_t (i := 88) (by decide +kernel) rfl
theorem aw_90 : Cond.fieldLink "Writeback$Files" 18 "Writeback$Files" "count" "I" ∈ AW := aw_t (i := 90) (by decide +kernel) rfl
theorem aw_111 : Cond.methodLink "Writeback$Frame" 3 ⟨"java/lang/Object", "<init>", "()V"⟩ ∈ AW := aw_t (i := 111) (by decide +kernel) rfl
theorem aw_112 : Cond.fieldLink "Writeback$Frame" 9 "Writeback$Frame" "spot" "I" ∈ AW := aw_t (i := 112) (by decide +kernel) rfl
theorem aw_122 : Cond.fieldLink "Writeback$Frame" 15 "Writeback$Frame" "dirty" "Z" ∈ AW := aw_t (i := 122) (by decide +kernel) rfl
theorem aw_133 : Cond.fieldLink "Writeback$Frame" 19 "Writeback$Frame" "ofWork" "Z" ∈ AW := aw_t (i := 133) (by decide +kernel) rfl
theorem aw_119 : Cond.fieldLink "Writeback$Frame" 22 "Writeback$Frame" "pins" "I" ∈ AW := aw_t (i := 119) (by decide +kernel) rfl
theorem aw_131 : Cond.fieldLink "Writeback$Frame" 25 "Writeback$Frame" "ahead" "Z" ∈ AW := aw_t (i := 131) (by decide +kernel) rfl
theorem aw_136 : Cond.fieldLink "Writeback$Frame" 28 "Writeback$Frame" "fresh" "Z" ∈ AW := aw_t (i := 136) (by decide +kernel) rfl
theorem aw_116 : Cond.fieldLink "Writeback$Frame" 31 "Writeback$Frame" "value" "I" ∈ AW := aw_t (i := 116) (by decide +kernel) rfl
theorem aw_137 : Cond.fieldLink "Writeback$Frame" 34 "Writeback$Frame" "oldValue" "I" ∈ AW := aw_t (i := 137) (by decide +kernel) rfl
theorem aw_138 : Cond.fieldLink "Writeback$Frame" 37 "Writeback$Frame" "oldDirty" "Z" ∈ AW := aw_t (i := 138) (by decide +kernel) rfl
theorem aw_442 : Cond.code ⟨"Writeback$Frame", "drop", "()V"⟩ prog_5_method_4_code 1 none ∈ AW := aw_t (i := 442) (by decide +kernel) rfl
theorem aw_926 : Cond.methodLink "Writeback$Frame" 40 ⟨"Writeback$Frame", "drop", "()V"⟩ ∈ AW := aw_t (i := 926) (by decide +kernel) rfl
theorem aw_440 : Cond.instanceMethod ⟨"Writeback$Frame", "drop", "()V"⟩ ∈ AW := aw_t (i := 440) (by decide +kernel) rfl
theorem aw_441 : Cond.selects "Writeback$Frame" ⟨"Writeback$Frame", "drop", "()V"⟩ ⟨"Writeback$Frame", "drop", "()V"⟩ ∈ AW := aw_t (i := 441) (by decide +kernel) rfl
theorem aw_5 : Cond.initialized "Writeback$Frame" ∈ AW := aw_t (i := 5) (by decide +kernel) rfl
theorem aw_1008 : Cond.methodLink "Writeback$Image" 1 ⟨"java/lang/Object", "<init>", "()V"⟩ ∈ AW := aw_t (i := 1008) (by decide +kernel) rfl
theorem aw_1009 : Cond.fieldLink "Writeback$Image" 7 "Writeback$Image" "device" "I" ∈ AW := aw_t (i := 1009) (by decide +kernel) rfl
theorem aw_1011 : Cond.fieldLink "Writeback$Image" 13 "Writeback$Image" "values" "[I" ∈ AW := aw_t (i := 1011) (by decide +kernel) rfl
theorem aw_1013 : Cond.fieldLink "Writeback$Image" 17 "Writeback$Image" "sums" "[I" ∈ AW := aw_t (i := 1013) (by decide +kernel) rfl
theorem aw_188 : Cond.methodLink "Writeback$Log" 3 ⟨"java/lang/Object", "<init>", "()V"⟩ ∈ AW := aw_t (i := 188) (by decide +kernel) rfl
theorem aw_202 : Cond.arrayClass .boolean ∈ AW := aw_t (i := 202) (by decide +kernel) rfl
theorem aw_189 : Cond.fieldLink "Writeback$Log" 9 "Writeback$Log" "has" "[Z" ∈ AW := aw_t (i := 189) (by decide +kernel) rfl
theorem aw_191 : Cond.fieldLink "Writeback$Log" 15 "Writeback$Log" "values" "[I" ∈ AW := aw_t (i := 191) (by decide +kernel) rfl
theorem aw_193 : Cond.fieldLink "Writeback$Log" 19 "Writeback$Log" "size" "I" ∈ AW := aw_t (i := 193) (by decide +kernel) rfl
theorem aw_104 : Cond.methodLink "Writeback$Pool" 3 ⟨"java/lang/Object", "<init>", "()V"⟩ ∈ AW := aw_t (i := 104) (by decide +kernel) rfl
theorem aw_105 : Cond.classLink "Writeback$Pool" 9 "Writeback$Frame" ∈ AW := aw_t (i := 105) (by decide +kernel) rfl
theorem aw_166 : Cond.fieldLink "Writeback$Pool" 11 "Writeback$Pool" "frames" "[LWriteback$Frame;" ∈ AW := aw_t (i := 166) (by decide +kernel) rfl
theorem aw_107 : Cond.instantiable "Writeback$Frame" 13 ∈ AW := aw_t (i := 107) (by decide +kernel) rfl
theorem aw_108 : Cond.methodLinkNest "Writeback$Pool" 17 ⟨"Writeback$Frame", "<init>", "()V"⟩ "Writeback" ∈ OW := ow_t (i := 108) (by decide +kernel) rfl
theorem aw_110 : Cond.code ⟨"Writeback$Frame", "<init>", "()V"⟩ prog_5_method_1_code 1 none ∈ AW := aw_t (i := 110) (by decide +kernel) rfl
theorem aw_109 : Cond.instanceMethod ⟨"Writeback$Frame", "<init>", "()V"⟩ ∈ AW := aw_t (i := 109) (by decide +kernel) rfl
theorem aw_169 : Cond.fieldLink "Writeback$Pool" 18 "Writeback$Pool" "size" "I" ∈ AW := aw_t (i := 169) (by decide +kernel) rfl
theorem aw_172 : Cond.fieldLink "Writeback$Pool" 22 "Writeback$Pool" "hand" "I" ∈ AW := aw_t (i := 172) (by decide +kernel) rfl
theorem aw_113 : Cond.fieldLink "Writeback$Pool" 32 "Writeback$Frame" "spot" "I" ∈ AW := aw_t (i := 113) (by decide +kernel) rfl
theorem aw_439 : Cond.methodLink "Writeback$Pool" 54 ⟨"Writeback$Frame", "drop", "()V"⟩ ∈ AW := aw_t (i := 439) (by decide +kernel) rfl
theorem aw_438 : Cond.code ⟨"Writeback$Pool", "dropSpots", "(II)V"⟩ prog_8_method_9_code 4 none ∈ AW := aw_t (i := 438) (by decide +kernel) rfl
theorem aw_435 : Cond.methodLink "Writeback$Pool" 25 ⟨"Writeback$Pool", "dropSpots", "(II)V"⟩ ∈ AW := aw_t (i := 435) (by decide +kernel) rfl
theorem aw_436 : Cond.instanceMethod ⟨"Writeback$Pool", "dropSpots", "(II)V"⟩ ∈ AW := aw_t (i := 436) (by decide +kernel) rfl
theorem aw_437 : Cond.selects "Writeback$Pool" ⟨"Writeback$Pool", "dropSpots", "(II)V"⟩ ⟨"Writeback$Pool", "dropSpots", "(II)V"⟩ ∈ AW := aw_t (i := 437) (by decide +kernel) rfl
theorem aw_4 : Cond.initialized "Writeback$Pool" ∈ AW := aw_t (i := 4) (by decide +kernel) rfl
theorem aw_173 : Cond.fieldLink "Writeback$Pool" 29 "Writeback$Pool" "time" "I" ∈ AW := aw_t (i := 173) (by decide +kernel) rfl
theorem aw_402 : Cond.code ⟨"Writeback$Pool", "find", "(I)I"⟩ prog_8_method_4_code 3 (some .int) ∈ AW := aw_t (i := 402) (by decide +kernel) rfl
theorem aw_399 : Cond.methodLink "Writeback$Pool" 35 ⟨"Writeback$Pool", "find", "(I)I"⟩ ∈ AW := aw_t (i := 399) (by decide +kernel) rfl
theorem aw_400 : Cond.instanceMethod ⟨"Writeback$Pool", "find", "(I)I"⟩ ∈ AW := aw_t (i := 400) (by decide +kernel) rfl
theorem aw_401 : Cond.selects "Writeback$Pool" ⟨"Writeback$Pool", "find", "(I)I"⟩ ⟨"Writeback$Pool", "find", "(I)I"⟩ ∈ AW := aw_t (i := 401) (by decide +kernel) rfl
theorem aw_120 : Cond.fieldLink "Writeback$Pool" 67 "Writeback$Frame" "pins" "I" ∈ AW := aw_t (i := 120) (by decide +kernel) rfl
theorem aw_134 : Cond.fieldLink "Writeback$Pool" 70 "Writeback$Frame" "ofWork" "Z" ∈ AW := aw_t (i := 134) (by decide +kernel) rfl
theorem aw_123 : Cond.fieldLink "Writeback$Pool" 73 "Writeback$Frame" "dirty" "Z" ∈ AW := aw_t (i := 123) (by decide +kernel) rfl
theorem aw_475 : Cond.code ⟨"Writeback$Pool", "canGo", "(IZI)Z"⟩ prog_8_method_11_code 5 (some .boolean) ∈ AW := aw_t (i := 475) (by decide +kernel) rfl
theorem aw_472 : Cond.methodLink "Writeback$Pool" 76 ⟨"Writeback$Pool", "canGo", "(IZI)Z"⟩ ∈ AW := aw_t (i := 472) (by decide +kernel) rfl
theorem aw_473 : Cond.instanceMethod ⟨"Writeback$Pool", "canGo", "(IZI)Z"⟩ ∈ AW := aw_t (i := 473) (by decide +kernel) rfl
theorem aw_474 : Cond.selects "Writeback$Pool" ⟨"Writeback$Pool", "canGo", "(IZI)Z"⟩ ⟨"Writeback$Pool", "canGo", "(IZI)Z"⟩ ∈ AW := aw_t (i := 474) (by decide +kernel) rfl
theorem aw_459 : Cond.code ⟨"Writeback$Pool", "lowestFree", "()I"⟩ prog_8_method_5_code 1 (some .int) ∈ AW := aw_t (i := 459) (by decide +kernel) rfl
theorem aw_760 : Cond.methodLink "Writeback$Pool" 39 ⟨"Writeback$Pool", "lowestFree", "()I"⟩ ∈ AW := aw_t (i := 760) (by decide +kernel) rfl
theorem aw_457 : Cond.instanceMethod ⟨"Writeback$Pool", "lowestFree", "()I"⟩ ∈ AW := aw_t (i := 457) (by decide +kernel) rfl
theorem aw_458 : Cond.selects "Writeback$Pool" ⟨"Writeback$Pool", "lowestFree", "()I"⟩ ⟨"Writeback$Pool", "lowestFree", "()I"⟩ ∈ AW := aw_t (i := 458) (by decide +kernel) rfl
theorem aw_471 : Cond.code ⟨"Writeback$Pool", "hasEvictable", "(ZI)Z"⟩ prog_8_method_12_code 4 (some .boolean) ∈ AW := aw_t (i := 471) (by decide +kernel) rfl
theorem aw_468 : Cond.methodLink "Writeback$Pool" 43 ⟨"Writeback$Pool", "hasEvictable", "(ZI)Z"⟩ ∈ AW := aw_t (i := 468) (by decide +kernel) rfl
theorem aw_469 : Cond.instanceMethod ⟨"Writeback$Pool", "hasEvictable", "(ZI)Z"⟩ ∈ AW := aw_t (i := 469) (by decide +kernel) rfl
theorem aw_470 : Cond.selects "Writeback$Pool" ⟨"Writeback$Pool", "hasEvictable", "(ZI)Z"⟩ ⟨"Writeback$Pool", "hasEvictable", "(ZI)Z"⟩ ∈ AW := aw_t (i := 470) (by decide +kernel) rfl
theorem aw_127 : Cond.fieldLink "Writeback$Pool" 47 "Writeback$Frame" "used" "I" ∈ AW := aw_t (i := 127) (by decide +kernel) rfl
theorem aw_130 : Cond.fieldLink "Writeback$Pool" 50 "Writeback$Frame" "usedSinceHand" "Z" ∈ AW := aw_t (i := 130) (by decide +kernel) rfl
theorem aw_117 : Cond.fieldLink "Writeback$Pool" 57 "Writeback$Frame" "value" "I" ∈ AW := aw_t (i := 117) (by decide +kernel) rfl
theorem aw_451 : Cond.code ⟨"Writeback$Pool", "use", "(I)V"⟩ prog_8_method_7_code 2 none ∈ AW := aw_t (i := 451) (by decide +kernel) rfl
theorem aw_488 : Cond.methodLink "Writeback$Pool" 60 ⟨"Writeback$Pool", "use", "(I)V"⟩ ∈ AW := aw_t (i := 488) (by decide +kernel) rfl
theorem aw_449 : Cond.instanceMethod ⟨"Writeback$Pool", "use", "(I)V"⟩ ∈ AW := aw_t (i := 449) (by decide +kernel) rfl
theorem aw_450 : Cond.selects "Writeback$Pool" ⟨"Writeback$Pool", "use", "(I)V"⟩ ⟨"Writeback$Pool", "use", "(I)V"⟩ ∈ AW := aw_t (i := 450) (by decide +kernel) rfl
theorem aw_129 : Cond.fieldLink "Writeback$Pool" 64 "Writeback$Frame" "came" "I" ∈ AW := aw_t (i := 129) (by decide +kernel) rfl
theorem aw_479 : Cond.code ⟨"Writeback$Pool", "sweep", "(ZI)I"⟩ prog_8_method_15_code 5 (some .int) ∈ AW := aw_t (i := 479) (by decide +kernel) rfl
theorem aw_476 : Cond.methodLink "Writeback$Pool" 80 ⟨"Writeback$Pool", "sweep", "(ZI)I"⟩ ∈ AW := aw_t (i := 476) (by decide +kernel) rfl
theorem aw_477 : Cond.instanceMethod ⟨"Writeback$Pool", "sweep", "(ZI)I"⟩ ∈ AW := aw_t (i := 477) (by decide +kernel) rfl
theorem aw_478 : Cond.selects "Writeback$Pool" ⟨"Writeback$Pool", "sweep", "(ZI)I"⟩ ⟨"Writeback$Pool", "sweep", "(ZI)I"⟩ ∈ AW := aw_t (i := 478) (by decide +kernel) rfl
theorem aw_483 : Cond.code ⟨"Writeback$Pool", "oldest", "(CZI)I"⟩ prog_8_method_14_code 8 (some .int) ∈ AW := aw_t (i := 483) (by decide +kernel) rfl
theorem aw_480 : Cond.methodLink "Writeback$Pool" 84 ⟨"Writeback$Pool", "oldest", "(CZI)I"⟩ ∈ AW := aw_t (i := 480) (by decide +kernel) rfl
theorem aw_481 : Cond.instanceMethod ⟨"Writeback$Pool", "oldest", "(CZI)I"⟩ ∈ AW := aw_t (i := 481) (by decide +kernel) rfl
theorem aw_482 : Cond.selects "Writeback$Pool" ⟨"Writeback$Pool", "oldest", "(CZI)I"⟩ ⟨"Writeback$Pool", "oldest", "(CZI)I"⟩ ∈ AW := aw_t (i := 482) (by decide +kernel) rfl
theorem aw_347 : Cond.code ⟨"Writeback$Frame", "isFree", "()Z"⟩ prog_5_method_2_code 1 (some .boolean) ∈ AW := aw_t (i := 347) (by decide +kernel) rfl
theorem aw_344 : Cond.methodLink "Writeback$Pool" 88 ⟨"Writeback$Frame", "isFree", "()Z"⟩ ∈ AW := aw_t (i := 344) (by decide +kernel) rfl
theorem aw_345 : Cond.instanceMethod ⟨"Writeback$Frame", "isFree", "()Z"⟩ ∈ AW := aw_t (i := 345) (by decide +kernel) rfl
theorem aw_346 : Cond.selects "Writeback$Frame" ⟨"Writeback$Frame", "isFree", "()Z"⟩ ⟨"Writeback$Frame", "isFree", "()Z"⟩ ∈ AW := aw_t (i := 346) (by decide +kernel) rfl
theorem aw_828 : Cond.code ⟨"Writeback$Frame", "isPlainDirty", "()Z"⟩ prog_5_method_3_code 1 (some .boolean) ∈ AW := aw_t (i := 828) (by decide +kernel) rfl
theorem aw_825 : Cond.methodLink "Writeback$Pool" 92 ⟨"Writeback$Frame", "isPlainDirty", "()Z"⟩ ∈ AW := aw_t (i := 825) (by decide +kernel) rfl
theorem aw_826 : Cond.instanceMethod ⟨"Writeback$Frame", "isPlainDirty", "()Z"⟩ ∈ AW := aw_t (i := 826) (by decide +kernel) rfl
theorem aw_827 : Cond.selects "Writeback$Frame" ⟨"Writeback$Frame", "isPlainDirty", "()Z"⟩ ⟨"Writeback$Frame", "isPlainDirty", "()Z"⟩ ∈ AW := aw_t (i := 827) (by decide +kernel) rfl
theorem aw_125 : Cond.fieldLink "Writeback$Pool" 95 "Writeback$Frame" "since" "I" ∈ AW := aw_t (i := 125) (by decide +kernel) rfl
theorem aw_226 : Cond.methodLink "Writeback$Trace" 3 ⟨"java/lang/Object", "<init>", "()V"⟩ ∈ AW := aw_t (i := 226) (by decide +kernel) rfl
theorem aw_229 : Cond.fieldLink "Writeback$Trace" 9 "Writeback$Trace" "pages" "[I" ∈ AW := aw_t (i := 229) (by decide +kernel) rfl
theorem aw_231 : Cond.fieldLink "Writeback$Trace" 15 "Writeback$Trace" "following" "[I" ∈ AW := aw_t (i := 231) (by decide +kernel) rfl
theorem aw_232 : Cond.fieldLink "Writeback$Trace" 18 "Writeback$Trace" "seen" "[I" ∈ AW := aw_t (i := 232) (by decide +kernel) rfl
theorem aw_233 : Cond.fieldLink "Writeback$Trace" 21 "Writeback$Trace" "nexts" "[I" ∈ AW := aw_t (i := 233) (by decide +kernel) rfl
theorem aw_227 : Cond.classLink "Writeback$Trace" 24 "Writeback$Pool" ∈ AW := aw_t (i := 227) (by decide +kernel) rfl
theorem aw_100 : Cond.instantiable "Writeback$Pool" 4 ∈ AW := aw_t (i := 100) (by decide +kernel) rfl
theorem aw_228 : Cond.methodLink "Writeback$Trace" 26 ⟨"Writeback$Pool", "<init>", "(I)V"⟩ ∈ AW := aw_t (i := 228) (by decide +kernel) rfl
theorem aw_103 : Cond.code ⟨"Writeback$Pool", "<init>", "(I)V"⟩ prog_8_method_1_code 3 none ∈ AW := aw_t (i := 103) (by decide +kernel) rfl
theorem aw_102 : Cond.instanceMethod ⟨"Writeback$Pool", "<init>", "(I)V"⟩ ∈ AW := aw_t (i := 102) (by decide +kernel) rfl
theorem aw_234 : Cond.fieldLink "Writeback$Trace" 29 "Writeback$Trace" "pool" "LWriteback$Pool;" ∈ AW := aw_t (i := 234) (by decide +kernel) rfl
theorem aw_230 : Cond.fieldLink "Writeback$Trace" 33 "Writeback$Trace" "length" "I" ∈ AW := aw_t (i := 230) (by decide +kernel) rfl
theorem aw_770 : Cond.methodLink "Writeback$Trace" 37 ⟨"java/lang/System", "arraycopy", "(Ljava/lang/Object;ILjava/lang/Object;II)V"⟩ ∈ AW := aw_t (i := 770) (by decide +kernel) rfl
theorem aw_772 : Cond.native ⟨"java/lang/System", "arraycopy", "(Ljava/lang/Object;ILjava/lang/Object;II)V"⟩ ∈ AW := aw_t (i := 772) (by decide +kernel) rfl
theorem aw_771 : Cond.static ⟨"java/lang/System", "arraycopy", "(Ljava/lang/Object;ILjava/lang/Object;II)V"⟩ ∈ AW := aw_t (i := 771) (by decide +kernel) rfl
theorem aw_27 : Cond.initialized "java/lang/System" ∈ AW := aw_t (i := 27) (by decide +kernel) rfl
theorem aw_171 : Cond.fieldLink "Writeback$Trace" 75 "Writeback$Pool" "size" "I" ∈ AW := aw_t (i := 171) (by decide +kernel) rfl
theorem aw_168 : Cond.fieldLink "Writeback$Trace" 78 "Writeback$Pool" "frames" "[LWriteback$Frame;" ∈ AW := aw_t (i := 168) (by decide +kernel) rfl
theorem aw_114 : Cond.fieldLink "Writeback$Trace" 82 "Writeback$Frame" "spot" "I" ∈ AW := aw_t (i := 114) (by decide +kernel) rfl
theorem aw_456 : Cond.methodLink "Writeback$Trace" 64 ⟨"Writeback$Pool", "lowestFree", "()I"⟩ ∈ AW := aw_t (i := 456) (by decide +kernel) rfl
theorem aw_463 : Cond.code ⟨"Writeback$Trace", "farthest", "()I"⟩ prog_9_method_6_code 4 (some .int) ∈ AW := aw_t (i := 463) (by decide +kernel) rfl
theorem aw_460 : Cond.methodLink "Writeback$Trace" 68 ⟨"Writeback$Trace", "farthest", "()I"⟩ ∈ AW := aw_t (i := 460) (by decide +kernel) rfl
theorem aw_461 : Cond.instanceMethod ⟨"Writeback$Trace", "farthest", "()I"⟩ ∈ AW := aw_t (i := 461) (by decide +kernel) rfl
theorem aw_462 : Cond.selects "Writeback$Trace" ⟨"Writeback$Trace", "farthest", "()I"⟩ ⟨"Writeback$Trace", "farthest", "()I"⟩ ∈ AW := aw_t (i := 462) (by decide +kernel) rfl
theorem aw_8 : Cond.initialized "Writeback$Trace" ∈ AW := aw_t (i := 8) (by decide +kernel) rfl
theorem aw_467 : Cond.code ⟨"Writeback$Pool", "choose", "(CZI)I"⟩ prog_8_method_13_code 4 (some .int) ∈ AW := aw_t (i := 467) (by decide +kernel) rfl
theorem aw_464 : Cond.methodLink "Writeback$Trace" 71 ⟨"Writeback$Pool", "choose", "(CZI)I"⟩ ∈ AW := aw_t (i := 464) (by decide +kernel) rfl
theorem aw_465 : Cond.instanceMethod ⟨"Writeback$Pool", "choose", "(CZI)I"⟩ ∈ AW := aw_t (i := 465) (by decide +kernel) rfl
theorem aw_466 : Cond.selects "Writeback$Pool" ⟨"Writeback$Pool", "choose", "(CZI)I"⟩ ⟨"Writeback$Pool", "choose", "(CZI)I"⟩ ∈ AW := aw_t (i := 466) (by decide +kernel) rfl
theorem aw_434 : Cond.code ⟨"Writeback$Pool", "startAnew", "(I)V"⟩ prog_8_method_3_code 2 none ∈ AW := aw_t (i := 434) (by decide +kernel) rfl
theorem aw_431 : Cond.methodLink "Writeback$Trace" 43 ⟨"Writeback$Pool", "startAnew", "(I)V"⟩ ∈ AW := aw_t (i := 431) (by decide +kernel) rfl
theorem aw_432 : Cond.instanceMethod ⟨"Writeback$Pool", "startAnew", "(I)V"⟩ ∈ AW := aw_t (i := 432) (by decide +kernel) rfl
theorem aw_433 : Cond.selects "Writeback$Pool" ⟨"Writeback$Pool", "startAnew", "(I)V"⟩ ⟨"Writeback$Pool", "startAnew", "(I)V"⟩ ∈ AW := aw_t (i := 433) (by decide +kernel) rfl
theorem aw_446 : Cond.code ⟨"Writeback$Trace", "lookAhead", "()V"⟩ prog_9_method_4_code 2 none ∈ AW := aw_t (i := 446) (by decide +kernel) rfl
theorem aw_443 : Cond.methodLink "Writeback$Trace" 46 ⟨"Writeback$Trace", "lookAhead", "()V"⟩ ∈ AW := aw_t (i := 443) (by decide +kernel) rfl
theorem aw_444 : Cond.instanceMethod ⟨"Writeback$Trace", "lookAhead", "()V"⟩ ∈ AW := aw_t (i := 444) (by decide +kernel) rfl
theorem aw_445 : Cond.selects "Writeback$Trace" ⟨"Writeback$Trace", "lookAhead", "()V"⟩ ⟨"Writeback$Trace", "lookAhead", "()V"⟩ ∈ AW := aw_t (i := 445) (by decide +kernel) rfl
theorem aw_447 : Cond.methodLink "Writeback$Trace" 49 ⟨"Writeback$Pool", "find", "(I)I"⟩ ∈ AW := aw_t (i := 447) (by decide +kernel) rfl
theorem aw_448 : Cond.methodLink "Writeback$Trace" 53 ⟨"Writeback$Pool", "use", "(I)V"⟩ ∈ AW := aw_t (i := 448) (by decide +kernel) rfl
theorem aw_455 : Cond.code ⟨"Writeback$Trace", "roomBy", "(C)I"⟩ prog_9_method_5_code 3 (some .int) ∈ AW := aw_t (i := 455) (by decide +kernel) rfl
theorem aw_452 : Cond.methodLink "Writeback$Trace" 56 ⟨"Writeback$Trace", "roomBy", "(C)I"⟩ ∈ AW := aw_t (i := 452) (by decide +kernel) rfl
theorem aw_453 : Cond.instanceMethod ⟨"Writeback$Trace", "roomBy", "(C)I"⟩ ∈ AW := aw_t (i := 453) (by decide +kernel) rfl
theorem aw_454 : Cond.selects "Writeback$Trace" ⟨"Writeback$Trace", "roomBy", "(C)I"⟩ ⟨"Writeback$Trace", "roomBy", "(C)I"⟩ ∈ AW := aw_t (i := 454) (by decide +kernel) rfl
theorem aw_487 : Cond.code ⟨"Writeback$Pool", "come", "(III)V"⟩ prog_8_method_8_code 5 none ∈ AW := aw_t (i := 487) (by decide +kernel) rfl
theorem aw_484 : Cond.methodLink "Writeback$Trace" 60 ⟨"Writeback$Pool", "come", "(III)V"⟩ ∈ AW := aw_t (i := 484) (by decide +kernel) rfl
theorem aw_485 : Cond.instanceMethod ⟨"Writeback$Pool", "come", "(III)V"⟩ ∈ AW := aw_t (i := 485) (by decide +kernel) rfl
theorem aw_486 : Cond.selects "Writeback$Pool" ⟨"Writeback$Pool", "come", "(III)V"⟩ ⟨"Writeback$Pool", "come", "(III)V"⟩ ∈ AW := aw_t (i := 486) (by decide +kernel) rfl
theorem aw_208 : Cond.methodLink "Writeback$Work" 1 ⟨"java/lang/Object", "<init>", "()V"⟩ ∈ AW := aw_t (i := 208) (by decide +kernel) rfl
theorem aw_209 : Cond.fieldLink "Writeback$Work" 7 "Writeback$Work" "going" "Z" ∈ AW := aw_t (i := 209) (by decide +kernel) rfl
theorem aw_212 : Cond.fieldLink "Writeback$Work" 13 "Writeback$Work" "written" "I" ∈ AW := aw_t (i := 212) (by decide +kernel) rfl
theorem aw_46 : Cond.methodLink "Writeback" 1 ⟨"java/lang/Object", "<init>", "()V"⟩ ∈ AW := aw_t (i := 46) (by decide +kernel) rfl
theorem aw_49 : Cond.classLink "Writeback" 9 "Writeback$Device" ∈ AW := aw_t (i := 49) (by decide +kernel) rfl
theorem aw_274 : Cond.fieldLink "Writeback" 11 "Writeback" "devices" "[LWriteback$Device;" ∈ AW := aw_t (i := 274) (by decide +kernel) rfl
theorem aw_51 : Cond.instantiable "Writeback$Device" 6 ∈ AW := aw_t (i := 51) (by decide +kernel) rfl
theorem aw_52 : Cond.methodLink "Writeback" 15 ⟨"Writeback$Device", "<init>", "(I)V"⟩ ∈ AW := aw_t (i := 52) (by decide +kernel) rfl
theorem aw_54 : Cond.code ⟨"Writeback$Device", "<init>", "(I)V"⟩ prog_3_method_1_code 2 none ∈ AW := aw_t (i := 54) (by decide +kernel) rfl
theorem aw_53 : Cond.instanceMethod ⟨"Writeback$Device", "<init>", "(I)V"⟩ ∈ AW := aw_t (i := 53) (by decide +kernel) rfl
theorem aw_80 : Cond.classLink "Writeback" 18 "Writeback$Files" ∈ AW := aw_t (i := 80) (by decide +kernel) rfl
theorem aw_81 : Cond.instantiable "Writeback$Files" 3 ∈ AW := aw_t (i := 81) (by decide +kernel) rfl
theorem aw_3 : Cond.initialized "Writeback$Files" ∈ AW := aw_t (i := 3) (by decide +kernel) rfl
theorem aw_82 : Cond.methodLinkNest "Writeback" 20 ⟨"Writeback$Files", "<init>", "()V"⟩ "Writeback" ∈ OW := ow_t (i := 82) (by decide +kernel) rfl
theorem aw_84 : Cond.code ⟨"Writeback$Files", "<init>", "()V"⟩ prog_4_method_1_code 1 none ∈ AW := aw_t (i := 84) (by decide +kernel) rfl
theorem aw_83 : Cond.instanceMethod ⟨"Writeback$Files", "<init>", "()V"⟩ ∈ AW := aw_t (i := 83) (by decide +kernel) rfl
theorem aw_275 : Cond.fieldLink "Writeback" 21 "Writeback" "files" "LWriteback$Files;" ∈ AW := aw_t (i := 275) (by decide +kernel) rfl
theorem aw_99 : Cond.classLink "Writeback" 25 "Writeback$Pool" ∈ AW := aw_t (i := 99) (by decide +kernel) rfl
theorem aw_101 : Cond.methodLink "Writeback" 27 ⟨"Writeback$Pool", "<init>", "(I)V"⟩ ∈ AW := aw_t (i := 101) (by decide +kernel) rfl
theorem aw_276 : Cond.fieldLink "Writeback" 28 "Writeback" "pool" "LWriteback$Pool;" ∈ AW := aw_t (i := 276) (by decide +kernel) rfl
theorem aw_183 : Cond.classLink "Writeback" 32 "Writeback$Log" ∈ AW := aw_t (i := 183) (by decide +kernel) rfl
theorem aw_184 : Cond.instantiable "Writeback$Log" 3 ∈ AW := aw_t (i := 184) (by decide +kernel) rfl
theorem aw_6 : Cond.initialized "Writeback$Log" ∈ AW := aw_t (i := 6) (by decide +kernel) rfl
theorem aw_185 : Cond.methodLinkNest "Writeback" 34 ⟨"Writeback$Log", "<init>", "()V"⟩ "Writeback" ∈ OW := ow_t (i := 185) (by decide +kernel) rfl
theorem aw_187 : Cond.code ⟨"Writeback$Log", "<init>", "()V"⟩ prog_7_method_1_code 1 none ∈ AW := aw_t (i := 187) (by decide +kernel) rfl
theorem aw_186 : Cond.instanceMethod ⟨"Writeback$Log", "<init>", "()V"⟩ ∈ AW := aw_t (i := 186) (by decide +kernel) rfl
theorem aw_277 : Cond.fieldLink "Writeback" 35 "Writeback" "log" "LWriteback$Log;" ∈ AW := aw_t (i := 277) (by decide +kernel) rfl
theorem aw_203 : Cond.classLink "Writeback" 39 "Writeback$Work" ∈ AW := aw_t (i := 203) (by decide +kernel) rfl
theorem aw_204 : Cond.instantiable "Writeback$Work" 3 ∈ AW := aw_t (i := 204) (by decide +kernel) rfl
theorem aw_7 : Cond.initialized "Writeback$Work" ∈ AW := aw_t (i := 7) (by decide +kernel) rfl
theorem aw_205 : Cond.methodLinkNest "Writeback" 41 ⟨"Writeback$Work", "<init>", "()V"⟩ "Writeback" ∈ OW := ow_t (i := 205) (by decide +kernel) rfl
theorem aw_207 : Cond.code ⟨"Writeback$Work", "<init>", "()V"⟩ prog_10_method_1_code 1 none ∈ AW := aw_t (i := 207) (by decide +kernel) rfl
theorem aw_206 : Cond.instanceMethod ⟨"Writeback$Work", "<init>", "()V"⟩ ∈ AW := aw_t (i := 206) (by decide +kernel) rfl
theorem aw_278 : Cond.fieldLink "Writeback" 42 "Writeback" "work" "LWriteback$Work;" ∈ AW := aw_t (i := 278) (by decide +kernel) rfl
theorem aw_221 : Cond.classLink "Writeback" 46 "Writeback$Trace" ∈ AW := aw_t (i := 221) (by decide +kernel) rfl
theorem aw_222 : Cond.instantiable "Writeback$Trace" 6 ∈ AW := aw_t (i := 222) (by decide +kernel) rfl
theorem aw_223 : Cond.methodLinkNest "Writeback" 48 ⟨"Writeback$Trace", "<init>", "()V"⟩ "Writeback" ∈ OW := ow_t (i := 223) (by decide +kernel) rfl
theorem aw_225 : Cond.code ⟨"Writeback$Trace", "<init>", "()V"⟩ prog_9_method_1_code 1 none ∈ AW := aw_t (i := 225) (by decide +kernel) rfl
theorem aw_224 : Cond.instanceMethod ⟨"Writeback$Trace", "<init>", "()V"⟩ ∈ AW := aw_t (i := 224) (by decide +kernel) rfl
theorem aw_279 : Cond.fieldLink "Writeback" 49 "Writeback" "trace" "LWriteback$Trace;" ∈ AW := aw_t (i := 279) (by decide +kernel) rfl
theorem aw_248 : Cond.classLink "Writeback" 53 "Writeback$Counts" ∈ AW := aw_t (i := 248) (by decide +kernel) rfl
theorem aw_249 : Cond.instantiable "Writeback$Counts" 5 ∈ AW := aw_t (i := 249) (by decide +kernel) rfl
theorem aw_9 : Cond.initialized "Writeback$Counts" ∈ AW := aw_t (i := 9) (by decide +kernel) rfl
theorem aw_250 : Cond.methodLinkNest "Writeback" 55 ⟨"Writeback$Counts", "<init>", "()V"⟩ "Writeback" ∈ OW := ow_t (i := 250) (by decide +kernel) rfl
theorem aw_252 : Cond.code ⟨"Writeback$Counts", "<init>", "()V"⟩ prog_2_method_1_code 1 none ∈ AW := aw_t (i := 252) (by decide +kernel) rfl
theorem aw_251 : Cond.instanceMethod ⟨"Writeback$Counts", "<init>", "()V"⟩ ∈ AW := aw_t (i := 251) (by decide +kernel) rfl
theorem aw_280 : Cond.fieldLink "Writeback" 56 "Writeback" "counts" "LWriteback$Counts;" ∈ AW := aw_t (i := 280) (by decide +kernel) rfl
theorem aw_272 : Cond.classLink "Writeback" 60 "Writeback$Image" ∈ AW := aw_t (i := 272) (by decide +kernel) rfl
theorem aw_281 : Cond.fieldLink "Writeback" 62 "Writeback" "images" "[LWriteback$Image;" ∈ AW := aw_t (i := 281) (by decide +kernel) rfl
theorem aw_323 : Cond.arrayClass .long ∈ AW := aw_t (i := 323) (by decide +kernel) rfl
theorem aw_283 : Cond.fieldLink "Writeback" 66 "Writeback" "bills" "[J" ∈ AW := aw_t (i := 283) (by decide +kernel) rfl
theorem aw_284 : Cond.fieldLink "Writeback" 70 "Writeback" "policy" "C" ∈ AW := aw_t (i := 284) (by decide +kernel) rfl
theorem aw_285 : Cond.fieldLink "Writeback" 74 "Writeback" "limit" "I" ∈ AW := aw_t (i := 285) (by decide +kernel) rfl
theorem aw_288 : Cond.fieldLink "Writeback" 78 "Writeback" "powered" "Z" ∈ AW := aw_t (i := 288) (by decide +kernel) rfl
theorem aw_580 : Cond.code ⟨"Writeback", "deviceOf", "(I)LWriteback$Device;"⟩ prog_1_method_51_code 2 (some (.object "Writeback$Device")) ∈ AW := aw_t (i := 580) (by decide +kernel) rfl
theorem aw_577 : Cond.methodLink "Writeback" 82 ⟨"Writeback", "deviceOf", "(I)LWriteback$Device;"⟩ ∈ AW := aw_t (i := 577) (by decide +kernel) rfl
theorem aw_579 : Cond.instanceMethod ⟨"Writeback", "deviceOf", "(I)LWriteback$Device;"⟩ ∈ AW := aw_t (i := 579) (by decide +kernel) rfl
theorem aw_p6 : Cond.selects "Writeback" ⟨"Writeback", "deviceOf", "(I)LWriteback$Device;"⟩ ⟨"Writeback", "deviceOf", "(I)LWriteback$Device;"⟩ ∈ AW := aw_s (i := 6) (by decide +kernel) rfl
theorem aw_1 : Cond.initialized "Writeback" ∈ AW := aw_t (i := 1) (by decide +kernel) rfl
theorem aw_65 : Cond.fieldLink "Writeback" 86 "Writeback$Device" "files" "I" ∈ AW := aw_t (i := 65) (by decide +kernel) rfl
theorem aw_91 : Cond.fieldLink "Writeback" 88 "Writeback$Files" "count" "I" ∈ AW := aw_t (i := 91) (by decide +kernel) rfl
theorem aw_613 : Cond.code ⟨"Writeback$Files", "come", "(I)I"⟩ prog_4_method_2_code 2 (some .int) ∈ AW := aw_t (i := 613) (by decide +kernel) rfl
theorem aw_610 : Cond.methodLink "Writeback" 98 ⟨"Writeback$Files", "come", "(I)I"⟩ ∈ AW := aw_t (i := 610) (by decide +kernel) rfl
theorem aw_611 : Cond.instanceMethod ⟨"Writeback$Files", "come", "(I)I"⟩ ∈ AW := aw_t (i := 611) (by decide +kernel) rfl
theorem aw_612 : Cond.selects "Writeback$Files" ⟨"Writeback$Files", "come", "(I)I"⟩ ⟨"Writeback$Files", "come", "(I)I"⟩ ∈ AW := aw_t (i := 612) (by decide +kernel) rfl
theorem aw_167 : Cond.fieldLink "Writeback" 118 "Writeback$Pool" "frames" "[LWriteback$Frame;" ∈ AW := aw_t (i := 167) (by decide +kernel) rfl
theorem aw_683 : Cond.methodLink "Writeback" 424 ⟨"Writeback$Frame", "drop", "()V"⟩ ∈ AW := aw_t (i := 683) (by decide +kernel) rfl
theorem aw_687 : Cond.code ⟨"Writeback$Work", "end", "()V"⟩ prog_10_method_2_code 1 none ∈ AW := aw_t (i := 687) (by decide +kernel) rfl
theorem aw_684 : Cond.methodLink "Writeback" 249 ⟨"Writeback$Work", "end", "()V"⟩ ∈ AW := aw_t (i := 684) (by decide +kernel) rfl
theorem aw_685 : Cond.instanceMethod ⟨"Writeback$Work", "end", "()V"⟩ ∈ AW := aw_t (i := 685) (by decide +kernel) rfl
theorem aw_686 : Cond.selects "Writeback$Work" ⟨"Writeback$Work", "end", "()V"⟩ ⟨"Writeback$Work", "end", "()V"⟩ ∈ AW := aw_t (i := 686) (by decide +kernel) rfl
theorem aw_289 : Cond.fieldLink "Writeback" 269 "Writeback" "writesLeft" "I" ∈ AW := aw_t (i := 289) (by decide +kernel) rfl
theorem aw_682 : Cond.code ⟨"Writeback", "losePower", "()V"⟩ prog_1_method_61_code 2 none ∈ AW := aw_t (i := 682) (by decide +kernel) rfl
theorem aw_679 : Cond.methodLink "Writeback" 276 ⟨"Writeback", "losePower", "()V"⟩ ∈ AW := aw_t (i := 679) (by decide +kernel) rfl
theorem aw_681 : Cond.instanceMethod ⟨"Writeback", "losePower", "()V"⟩ ∈ AW := aw_t (i := 681) (by decide +kernel) rfl
theorem aw_p11 : Cond.selects "Writeback" ⟨"Writeback", "losePower", "()V"⟩ ⟨"Writeback", "losePower", "()V"⟩ ∈ AW := aw_s (i := 11) (by decide +kernel) rfl
theorem aw_287 : Cond.fieldLink "Writeback" 141 "Writeback" "tenant" "I" ∈ AW := aw_t (i := 287) (by decide +kernel) rfl
theorem aw_695 : Cond.code ⟨"Writeback$Device", "reach", "(I)I"⟩ prog_3_method_2_code 3 (some .int) ∈ AW := aw_t (i := 695) (by decide +kernel) rfl
theorem aw_692 : Cond.methodLink "Writeback" 418 ⟨"Writeback$Device", "reach", "(I)I"⟩ ∈ AW := aw_t (i := 692) (by decide +kernel) rfl
theorem aw_693 : Cond.instanceMethod ⟨"Writeback$Device", "reach", "(I)I"⟩ ∈ AW := aw_t (i := 693) (by decide +kernel) rfl
theorem aw_694 : Cond.selects "Writeback$Device" ⟨"Writeback$Device", "reach", "(I)I"⟩ ⟨"Writeback$Device", "reach", "(I)I"⟩ ∈ AW := aw_t (i := 694) (by decide +kernel) rfl
theorem aw_702 : Cond.code ⟨"Writeback$Device", "put", "(II)V"⟩ prog_3_method_3_code 3 none ∈ AW := aw_t (i := 702) (by decide +kernel) rfl
theorem aw_699 : Cond.methodLink "Writeback" 421 ⟨"Writeback$Device", "put", "(II)V"⟩ ∈ AW := aw_t (i := 699) (by decide +kernel) rfl
theorem aw_700 : Cond.instanceMethod ⟨"Writeback$Device", "put", "(II)V"⟩ ∈ AW := aw_t (i := 700) (by decide +kernel) rfl
theorem aw_701 : Cond.selects "Writeback$Device" ⟨"Writeback$Device", "put", "(II)V"⟩ ⟨"Writeback$Device", "put", "(II)V"⟩ ∈ AW := aw_t (i := 701) (by decide +kernel) rfl
theorem aw_678 : Cond.code ⟨"Writeback", "mayWrite", "()Z"⟩ prog_1_method_60_code 1 (some .boolean) ∈ AW := aw_t (i := 678) (by decide +kernel) rfl
theorem aw_675 : Cond.methodLink "Writeback" 237 ⟨"Writeback", "mayWrite", "()Z"⟩ ∈ AW := aw_t (i := 675) (by decide +kernel) rfl
theorem aw_677 : Cond.instanceMethod ⟨"Writeback", "mayWrite", "()Z"⟩ ∈ AW := aw_t (i := 677) (by decide +kernel) rfl
theorem aw_p10 : Cond.selects "Writeback" ⟨"Writeback", "mayWrite", "()Z"⟩ ⟨"Writeback", "mayWrite", "()Z"⟩ ∈ AW := aw_s (i := 10) (by decide +kernel) rfl
theorem aw_115 : Cond.fieldLink "Writeback" 243 "Writeback$Frame" "spot" "I" ∈ AW := aw_t (i := 115) (by decide +kernel) rfl
theorem aw_118 : Cond.fieldLink "Writeback" 170 "Writeback$Frame" "value" "I" ∈ AW := aw_t (i := 118) (by decide +kernel) rfl
theorem aw_691 : Cond.code ⟨"Writeback", "writePlace", "(II)V"⟩ prog_1_method_59_code 4 none ∈ AW := aw_t (i := 691) (by decide +kernel) rfl
theorem aw_688 : Cond.methodLink "Writeback" 288 ⟨"Writeback", "writePlace", "(II)V"⟩ ∈ AW := aw_t (i := 688) (by decide +kernel) rfl
theorem aw_690 : Cond.instanceMethod ⟨"Writeback", "writePlace", "(II)V"⟩ ∈ AW := aw_t (i := 690) (by decide +kernel) rfl
theorem aw_p12 : Cond.selects "Writeback" ⟨"Writeback", "writePlace", "(II)V"⟩ ⟨"Writeback", "writePlace", "(II)V"⟩ ∈ AW := aw_s (i := 12) (by decide +kernel) rfl
theorem aw_124 : Cond.fieldLink "Writeback" 210 "Writeback$Frame" "dirty" "Z" ∈ AW := aw_t (i := 124) (by decide +kernel) rfl
theorem aw_706 : Cond.code ⟨"Writeback$Log", "forget", "(I)V"⟩ prog_7_method_3_code 2 none ∈ AW := aw_t (i := 706) (by decide +kernel) rfl
theorem aw_703 : Cond.methodLink "Writeback" 291 ⟨"Writeback$Log", "forget", "(I)V"⟩ ∈ AW := aw_t (i := 703) (by decide +kernel) rfl
theorem aw_704 : Cond.instanceMethod ⟨"Writeback$Log", "forget", "(I)V"⟩ ∈ AW := aw_t (i := 704) (by decide +kernel) rfl
theorem aw_705 : Cond.selects "Writeback$Log" ⟨"Writeback$Log", "forget", "(I)V"⟩ ⟨"Writeback$Log", "forget", "(I)V"⟩ ∈ AW := aw_t (i := 705) (by decide +kernel) rfl
theorem aw_674 : Cond.code ⟨"Writeback", "flush", "(LWriteback$Frame;)Z"⟩ prog_1_method_62_code 2 (some .boolean) ∈ AW := aw_t (i := 674) (by decide +kernel) rfl
theorem aw_671 : Cond.methodLink "Writeback" 427 ⟨"Writeback", "flush", "(LWriteback$Frame;)Z"⟩ ∈ AW := aw_t (i := 671) (by decide +kernel) rfl
theorem aw_673 : Cond.instanceMethod ⟨"Writeback", "flush", "(LWriteback$Frame;)Z"⟩ ∈ AW := aw_t (i := 673) (by decide +kernel) rfl
theorem aw_p9 : Cond.selects "Writeback" ⟨"Writeback", "flush", "(LWriteback$Frame;)Z"⟩ ⟨"Writeback", "flush", "(LWriteback$Frame;)Z"⟩ ∈ AW := aw_s (i := 9) (by decide +kernel) rfl
theorem aw_625 : Cond.code ⟨"Writeback", "checkRange", "(III)V"⟩ prog_1_method_47_code 3 none ∈ AW := aw_t (i := 625) (by decide +kernel) rfl
theorem aw_623 : Cond.methodLink "Writeback" 102 ⟨"Writeback", "checkRange", "(III)V"⟩ ∈ AW := aw_t (i := 623) (by decide +kernel) rfl
theorem aw_624 : Cond.static ⟨"Writeback", "checkRange", "(III)V"⟩ ∈ AW := aw_t (i := 624) (by decide +kernel) rfl
theorem aw_645 : Cond.code ⟨"Writeback", "checkPower", "()V"⟩ prog_1_method_48_code 1 none ∈ AW := aw_t (i := 645) (by decide +kernel) rfl
theorem aw_642 : Cond.methodLink "Writeback" 106 ⟨"Writeback", "checkPower", "()V"⟩ ∈ AW := aw_t (i := 642) (by decide +kernel) rfl
theorem aw_644 : Cond.instanceMethod ⟨"Writeback", "checkPower", "()V"⟩ ∈ AW := aw_t (i := 644) (by decide +kernel) rfl
theorem aw_p7 : Cond.selects "Writeback" ⟨"Writeback", "checkPower", "()V"⟩ ⟨"Writeback", "checkPower", "()V"⟩ ∈ AW := aw_s (i := 7) (by decide +kernel) rfl
theorem aw_665 : Cond.code ⟨"Writeback$Pool", "holdsFastBehind", "(I)Z"⟩ prog_8_method_10_code 3 (some .boolean) ∈ AW := aw_t (i := 665) (by decide +kernel) rfl
theorem aw_662 : Cond.methodLink "Writeback" 109 ⟨"Writeback$Pool", "holdsFastBehind", "(I)Z"⟩ ∈ AW := aw_t (i := 662) (by decide +kernel) rfl
theorem aw_663 : Cond.instanceMethod ⟨"Writeback$Pool", "holdsFastBehind", "(I)Z"⟩ ∈ AW := aw_t (i := 663) (by decide +kernel) rfl
theorem aw_664 : Cond.selects "Writeback$Pool" ⟨"Writeback$Pool", "holdsFastBehind", "(I)Z"⟩ ⟨"Writeback$Pool", "holdsFastBehind", "(I)Z"⟩ ∈ AW := aw_t (i := 664) (by decide +kernel) rfl
theorem aw_170 : Cond.fieldLink "Writeback" 115 "Writeback$Pool" "size" "I" ∈ AW := aw_t (i := 170) (by decide +kernel) rfl
theorem aw_670 : Cond.code ⟨"Writeback", "evict", "(LWriteback$Frame;)Z"⟩ prog_1_method_63_code 2 (some .boolean) ∈ AW := aw_t (i := 670) (by decide +kernel) rfl
theorem aw_667 : Cond.methodLink "Writeback" 122 ⟨"Writeback", "evict", "(LWriteback$Frame;)Z"⟩ ∈ AW := aw_t (i := 667) (by decide +kernel) rfl
theorem aw_669 : Cond.instanceMethod ⟨"Writeback", "evict", "(LWriteback$Frame;)Z"⟩ ∈ AW := aw_t (i := 669) (by decide +kernel) rfl
theorem aw_p8 : Cond.selects "Writeback" ⟨"Writeback", "evict", "(LWriteback$Frame;)Z"⟩ ⟨"Writeback", "evict", "(LWriteback$Frame;)Z"⟩ ∈ AW := aw_s (i := 8) (by decide +kernel) rfl
theorem aw_710 : Cond.code ⟨"Writeback$Pool", "resize", "(I)I"⟩ prog_8_method_2_code 3 (some .int) ∈ AW := aw_t (i := 710) (by decide +kernel) rfl
theorem aw_707 : Cond.methodLink "Writeback" 126 ⟨"Writeback$Pool", "resize", "(I)I"⟩ ∈ AW := aw_t (i := 707) (by decide +kernel) rfl
theorem aw_708 : Cond.instanceMethod ⟨"Writeback$Pool", "resize", "(I)I"⟩ ∈ AW := aw_t (i := 708) (by decide +kernel) rfl
theorem aw_709 : Cond.selects "Writeback$Pool" ⟨"Writeback$Pool", "resize", "(I)I"⟩ ⟨"Writeback$Pool", "resize", "(I)I"⟩ ∈ AW := aw_t (i := 709) (by decide +kernel) rfl
theorem aw_720 : Cond.code ⟨"Writeback", "isPolicy", "(C)Z"⟩ prog_1_method_54_code 1 (some .boolean) ∈ AW := aw_t (i := 720) (by decide +kernel) rfl
theorem aw_718 : Cond.methodLink "Writeback" 129 ⟨"Writeback", "isPolicy", "(C)Z"⟩ ∈ AW := aw_t (i := 718) (by decide +kernel) rfl
theorem aw_719 : Cond.static ⟨"Writeback", "isPolicy", "(C)Z"⟩ ∈ AW := aw_t (i := 719) (by decide +kernel) rfl
theorem aw_286 : Cond.fieldLink "Writeback" 138 "Writeback" "window" "I" ∈ AW := aw_t (i := 286) (by decide +kernel) rfl
theorem aw_87 : Cond.fieldLink "Writeback" 414 "Writeback$Files" "homes" "[I" ∈ AW := aw_t (i := 87) (by decide +kernel) rfl
theorem aw_411 : Cond.methodLink "Writeback" 417 ⟨"Writeback$Device", "isDamaged", "(I)Z"⟩ ∈ AW := aw_t (i := 411) (by decide +kernel) rfl
theorem aw_769 : Cond.code ⟨"Writeback$Trace", "add", "(I)V"⟩ prog_9_method_2_code 2 none ∈ AW := aw_t (i := 769) (by decide +kernel) rfl
theorem aw_766 : Cond.methodLink "Writeback" 446 ⟨"Writeback$Trace", "add", "(I)V"⟩ ∈ AW := aw_t (i := 766) (by decide +kernel) rfl
theorem aw_767 : Cond.instanceMethod ⟨"Writeback$Trace", "add", "(I)V"⟩ ∈ AW := aw_t (i := 767) (by decide +kernel) rfl
theorem aw_768 : Cond.selects "Writeback$Trace" ⟨"Writeback$Trace", "add", "(I)V"⟩ ⟨"Writeback$Trace", "add", "(I)V"⟩ ∈ AW := aw_t (i := 768) (by decide +kernel) rfl
theorem aw_257 : Cond.fieldLink "Writeback" 340 "Writeback$Counts" "misses" "I" ∈ AW := aw_t (i := 257) (by decide +kernel) rfl
theorem aw_255 : Cond.fieldLink "Writeback" 337 "Writeback$Counts" "hits" "I" ∈ AW := aw_t (i := 255) (by decide +kernel) rfl
theorem aw_132 : Cond.fieldLink "Writeback" 444 "Writeback$Frame" "ahead" "Z" ∈ AW := aw_t (i := 132) (by decide +kernel) rfl
theorem aw_260 : Cond.fieldLink "Writeback" 349 "Writeback$Counts" "useful" "I" ∈ AW := aw_t (i := 260) (by decide +kernel) rfl
theorem aw_778 : Cond.methodLink "Writeback" 430 ⟨"Writeback$Pool", "lowestFree", "()I"⟩ ∈ AW := aw_t (i := 778) (by decide +kernel) rfl
theorem aw_779 : Cond.methodLink "Writeback" 433 ⟨"Writeback$Pool", "choose", "(CZI)I"⟩ ∈ AW := aw_t (i := 779) (by decide +kernel) rfl
theorem aw_58 : Cond.fieldLink "Writeback" 296 "Writeback$Device" "values" "[I" ∈ AW := aw_t (i := 58) (by decide +kernel) rfl
theorem aw_389 : Cond.code ⟨"Writeback", "valueOn", "(I)I"⟩ prog_1_method_56_code 2 (some .int) ∈ AW := aw_t (i := 389) (by decide +kernel) rfl
theorem aw_386 : Cond.methodLink "Writeback" 213 ⟨"Writeback", "valueOn", "(I)I"⟩ ∈ AW := aw_t (i := 386) (by decide +kernel) rfl
theorem aw_388 : Cond.instanceMethod ⟨"Writeback", "valueOn", "(I)I"⟩ ∈ AW := aw_t (i := 388) (by decide +kernel) rfl
theorem aw_p0 : Cond.selects "Writeback" ⟨"Writeback", "valueOn", "(I)I"⟩ ⟨"Writeback", "valueOn", "(I)I"⟩ ∈ AW := aw_s (i := 0) (by decide +kernel) rfl
theorem aw_787 : Cond.code ⟨"Writeback", "readPlace", "(I)I"⟩ prog_1_method_58_code 2 (some .int) ∈ AW := aw_t (i := 787) (by decide +kernel) rfl
theorem aw_784 : Cond.methodLink "Writeback" 437 ⟨"Writeback", "readPlace", "(I)I"⟩ ∈ AW := aw_t (i := 784) (by decide +kernel) rfl
theorem aw_786 : Cond.instanceMethod ⟨"Writeback", "readPlace", "(I)I"⟩ ∈ AW := aw_t (i := 786) (by decide +kernel) rfl
theorem aw_p17 : Cond.selects "Writeback" ⟨"Writeback", "readPlace", "(I)I"⟩ ⟨"Writeback", "readPlace", "(I)I"⟩ ∈ AW := aw_s (i := 17) (by decide +kernel) rfl
theorem aw_788 : Cond.methodLink "Writeback" 191 ⟨"Writeback$Pool", "come", "(III)V"⟩ ∈ AW := aw_t (i := 788) (by decide +kernel) rfl
theorem aw_410 : Cond.code ⟨"Writeback", "isDamaged", "(I)Z"⟩ prog_1_method_57_code 2 (some .boolean) ∈ AW := aw_t (i := 410) (by decide +kernel) rfl
theorem aw_407 : Cond.methodLink "Writeback" 155 ⟨"Writeback", "isDamaged", "(I)Z"⟩ ∈ AW := aw_t (i := 407) (by decide +kernel) rfl
theorem aw_409 : Cond.instanceMethod ⟨"Writeback", "isDamaged", "(I)Z"⟩ ∈ AW := aw_t (i := 409) (by decide +kernel) rfl
theorem aw_p2 : Cond.selects "Writeback" ⟨"Writeback", "isDamaged", "(I)Z"⟩ ⟨"Writeback", "isDamaged", "(I)Z"⟩ ∈ AW := aw_s (i := 2) (by decide +kernel) rfl
theorem aw_783 : Cond.code ⟨"Writeback", "bring", "(II)V"⟩ prog_1_method_65_code 3 none ∈ AW := aw_t (i := 783) (by decide +kernel) rfl
theorem aw_780 : Cond.methodLink "Writeback" 179 ⟨"Writeback", "bring", "(II)V"⟩ ∈ AW := aw_t (i := 780) (by decide +kernel) rfl
theorem aw_782 : Cond.instanceMethod ⟨"Writeback", "bring", "(II)V"⟩ ∈ AW := aw_t (i := 782) (by decide +kernel) rfl
theorem aw_p16 : Cond.selects "Writeback" ⟨"Writeback", "bring", "(II)V"⟩ ⟨"Writeback", "bring", "(II)V"⟩ ∈ AW := aw_s (i := 16) (by decide +kernel) rfl
theorem aw_259 : Cond.fieldLink "Writeback" 346 "Writeback$Counts" "ahead" "I" ∈ AW := aw_t (i := 259) (by decide +kernel) rfl
theorem aw_755 : Cond.methodLink "Writeback" 148 ⟨"Writeback$Pool", "find", "(I)I"⟩ ∈ AW := aw_t (i := 755) (by decide +kernel) rfl
theorem aw_796 : Cond.code ⟨"Writeback", "bringAhead", "(II)Z"⟩ prog_1_method_67_code 4 (some .boolean) ∈ AW := aw_t (i := 796) (by decide +kernel) rfl
theorem aw_793 : Cond.methodLink "Writeback" 440 ⟨"Writeback", "bringAhead", "(II)Z"⟩ ∈ AW := aw_t (i := 793) (by decide +kernel) rfl
theorem aw_795 : Cond.instanceMethod ⟨"Writeback", "bringAhead", "(II)Z"⟩ ∈ AW := aw_t (i := 795) (by decide +kernel) rfl
theorem aw_p19 : Cond.selects "Writeback" ⟨"Writeback", "bringAhead", "(II)Z"⟩ ⟨"Writeback", "bringAhead", "(II)Z"⟩ ∈ AW := aw_s (i := 19) (by decide +kernel) rfl
theorem aw_753 : Cond.code ⟨"Writeback", "spotOf", "(II)I"⟩ prog_1_method_53_code 3 (some .int) ∈ AW := aw_t (i := 753) (by decide +kernel) rfl
theorem aw_750 : Cond.methodLink "Writeback" 144 ⟨"Writeback", "spotOf", "(II)I"⟩ ∈ AW := aw_t (i := 750) (by decide +kernel) rfl
theorem aw_752 : Cond.instanceMethod ⟨"Writeback", "spotOf", "(II)I"⟩ ∈ AW := aw_t (i := 752) (by decide +kernel) rfl
theorem aw_p13 : Cond.selects "Writeback" ⟨"Writeback", "spotOf", "(II)I"⟩ ⟨"Writeback", "spotOf", "(II)I"⟩ ∈ AW := aw_s (i := 13) (by decide +kernel) rfl
theorem aw_759 : Cond.code ⟨"Writeback$Pool", "hasRoom", "()Z"⟩ prog_8_method_6_code 1 (some .boolean) ∈ AW := aw_t (i := 759) (by decide +kernel) rfl
theorem aw_756 : Cond.methodLink "Writeback" 151 ⟨"Writeback$Pool", "hasRoom", "()Z"⟩ ∈ AW := aw_t (i := 756) (by decide +kernel) rfl
theorem aw_757 : Cond.instanceMethod ⟨"Writeback$Pool", "hasRoom", "()Z"⟩ ∈ AW := aw_t (i := 757) (by decide +kernel) rfl
theorem aw_758 : Cond.selects "Writeback$Pool" ⟨"Writeback$Pool", "hasRoom", "()Z"⟩ ⟨"Writeback$Pool", "hasRoom", "()Z"⟩ ∈ AW := aw_t (i := 758) (by decide +kernel) rfl
theorem aw_765 : Cond.code ⟨"Writeback", "countAccess", "(III)V"⟩ prog_1_method_68_code 4 none ∈ AW := aw_t (i := 765) (by decide +kernel) rfl
theorem aw_762 : Cond.methodLink "Writeback" 160 ⟨"Writeback", "countAccess", "(III)V"⟩ ∈ AW := aw_t (i := 762) (by decide +kernel) rfl
theorem aw_764 : Cond.instanceMethod ⟨"Writeback", "countAccess", "(III)V"⟩ ∈ AW := aw_t (i := 764) (by decide +kernel) rfl
theorem aw_p14 : Cond.selects "Writeback" ⟨"Writeback", "countAccess", "(III)V"⟩ ⟨"Writeback", "countAccess", "(III)V"⟩ ∈ AW := aw_s (i := 14) (by decide +kernel) rfl
theorem aw_89 : Cond.fieldLink "Writeback" 163 "Writeback$Files" "lastRead" "[I" ∈ AW := aw_t (i := 89) (by decide +kernel) rfl
theorem aw_773 : Cond.methodLink "Writeback" 167 ⟨"Writeback$Pool", "use", "(I)V"⟩ ∈ AW := aw_t (i := 773) (by decide +kernel) rfl
theorem aw_777 : Cond.code ⟨"Writeback", "takeFrame", "()I"⟩ prog_1_method_64_code 3 (some .int) ∈ AW := aw_t (i := 777) (by decide +kernel) rfl
theorem aw_774 : Cond.methodLink "Writeback" 175 ⟨"Writeback", "takeFrame", "()I"⟩ ∈ AW := aw_t (i := 774) (by decide +kernel) rfl
theorem aw_776 : Cond.instanceMethod ⟨"Writeback", "takeFrame", "()I"⟩ ∈ AW := aw_t (i := 776) (by decide +kernel) rfl
theorem aw_p15 : Cond.selects "Writeback" ⟨"Writeback", "takeFrame", "()I"⟩ ⟨"Writeback", "takeFrame", "()I"⟩ ∈ AW := aw_s (i := 15) (by decide +kernel) rfl
theorem aw_792 : Cond.code ⟨"Writeback", "readAhead", "(III)V"⟩ prog_1_method_66_code 5 none ∈ AW := aw_t (i := 792) (by decide +kernel) rfl
theorem aw_789 : Cond.methodLink "Writeback" 183 ⟨"Writeback", "readAhead", "(III)V"⟩ ∈ AW := aw_t (i := 789) (by decide +kernel) rfl
theorem aw_791 : Cond.instanceMethod ⟨"Writeback", "readAhead", "(III)V"⟩ ∈ AW := aw_t (i := 791) (by decide +kernel) rfl
theorem aw_p18 : Cond.selects "Writeback" ⟨"Writeback", "readAhead", "(III)V"⟩ ⟨"Writeback", "readAhead", "(III)V"⟩ ∈ AW := aw_s (i := 18) (by decide +kernel) rfl
theorem aw_213 : Cond.fieldLink "Writeback" 252 "Writeback$Work" "written" "I" ∈ AW := aw_t (i := 213) (by decide +kernel) rfl
theorem aw_135 : Cond.fieldLink "Writeback" 240 "Writeback$Frame" "ofWork" "Z" ∈ AW := aw_t (i := 135) (by decide +kernel) rfl
theorem aw_210 : Cond.fieldLink "Writeback" 216 "Writeback$Work" "going" "Z" ∈ AW := aw_t (i := 210) (by decide +kernel) rfl
theorem aw_816 : Cond.code ⟨"Writeback$Frame", "remember", "(Z)V"⟩ prog_5_method_5_code 2 none ∈ AW := aw_t (i := 816) (by decide +kernel) rfl
theorem aw_813 : Cond.methodLink "Writeback" 449 ⟨"Writeback$Frame", "remember", "(Z)V"⟩ ∈ AW := aw_t (i := 813) (by decide +kernel) rfl
theorem aw_814 : Cond.instanceMethod ⟨"Writeback$Frame", "remember", "(Z)V"⟩ ∈ AW := aw_t (i := 814) (by decide +kernel) rfl
theorem aw_815 : Cond.selects "Writeback$Frame" ⟨"Writeback$Frame", "remember", "(Z)V"⟩ ⟨"Writeback$Frame", "remember", "(Z)V"⟩ ∈ AW := aw_t (i := 815) (by decide +kernel) rfl
theorem aw_128 : Cond.fieldLink "Writeback" 453 "Writeback$Frame" "used" "I" ∈ AW := aw_t (i := 128) (by decide +kernel) rfl
theorem aw_126 : Cond.fieldLink "Writeback" 456 "Writeback$Frame" "since" "I" ∈ AW := aw_t (i := 126) (by decide +kernel) rfl
theorem aw_355 : Cond.code ⟨"Writeback$Pool", "dirtyPages", "(Z)I"⟩ prog_8_method_17_code 4 (some .int) ∈ AW := aw_t (i := 355) (by decide +kernel) rfl
theorem aw_352 : Cond.methodLink "Writeback" 272 ⟨"Writeback$Pool", "dirtyPages", "(Z)I"⟩ ∈ AW := aw_t (i := 352) (by decide +kernel) rfl
theorem aw_353 : Cond.instanceMethod ⟨"Writeback$Pool", "dirtyPages", "(Z)I"⟩ ∈ AW := aw_t (i := 353) (by decide +kernel) rfl
theorem aw_354 : Cond.selects "Writeback$Pool" ⟨"Writeback$Pool", "dirtyPages", "(Z)I"⟩ ⟨"Writeback$Pool", "dirtyPages", "(Z)I"⟩ ∈ AW := aw_t (i := 354) (by decide +kernel) rfl
theorem aw_824 : Cond.code ⟨"Writeback$Pool", "longestDirty", "()I"⟩ prog_8_method_19_code 3 (some .int) ∈ AW := aw_t (i := 824) (by decide +kernel) rfl
theorem aw_821 : Cond.methodLink "Writeback" 459 ⟨"Writeback$Pool", "longestDirty", "()I"⟩ ∈ AW := aw_t (i := 821) (by decide +kernel) rfl
theorem aw_822 : Cond.instanceMethod ⟨"Writeback$Pool", "longestDirty", "()I"⟩ ∈ AW := aw_t (i := 822) (by decide +kernel) rfl
theorem aw_823 : Cond.selects "Writeback$Pool" ⟨"Writeback$Pool", "longestDirty", "()I"⟩ ⟨"Writeback$Pool", "longestDirty", "()I"⟩ ∈ AW := aw_t (i := 823) (by decide +kernel) rfl
theorem aw_258 : Cond.fieldLink "Writeback" 343 "Writeback$Counts" "waits" "I" ∈ AW := aw_t (i := 258) (by decide +kernel) rfl
theorem aw_807 : Cond.code ⟨"Writeback", "isOneTooMany", "(I)Z"⟩ prog_1_method_55_code 2 (some .boolean) ∈ AW := aw_t (i := 807) (by decide +kernel) rfl
theorem aw_804 : Cond.methodLink "Writeback" 186 ⟨"Writeback", "isOneTooMany", "(I)Z"⟩ ∈ AW := aw_t (i := 804) (by decide +kernel) rfl
theorem aw_806 : Cond.instanceMethod ⟨"Writeback", "isOneTooMany", "(I)Z"⟩ ∈ AW := aw_t (i := 806) (by decide +kernel) rfl
theorem aw_p20 : Cond.selects "Writeback" ⟨"Writeback", "isOneTooMany", "(I)Z"⟩ ⟨"Writeback", "isOneTooMany", "(I)Z"⟩ ∈ AW := aw_s (i := 20) (by decide +kernel) rfl
theorem aw_812 : Cond.code ⟨"Writeback", "change", "(LWriteback$Frame;IZ)V"⟩ prog_1_method_69_code 4 none ∈ AW := aw_t (i := 812) (by decide +kernel) rfl
theorem aw_809 : Cond.methodLink "Writeback" 193 ⟨"Writeback", "change", "(LWriteback$Frame;IZ)V"⟩ ∈ AW := aw_t (i := 809) (by decide +kernel) rfl
theorem aw_811 : Cond.instanceMethod ⟨"Writeback", "change", "(LWriteback$Frame;IZ)V"⟩ ∈ AW := aw_t (i := 811) (by decide +kernel) rfl
theorem aw_p21 : Cond.selects "Writeback" ⟨"Writeback", "change", "(LWriteback$Frame;IZ)V"⟩ ⟨"Writeback", "change", "(LWriteback$Frame;IZ)V"⟩ ∈ AW := aw_s (i := 21) (by decide +kernel) rfl
theorem aw_820 : Cond.code ⟨"Writeback", "waitForLimit", "()I"⟩ prog_1_method_70_code 4 (some .int) ∈ AW := aw_t (i := 820) (by decide +kernel) rfl
theorem aw_817 : Cond.methodLink "Writeback" 197 ⟨"Writeback", "waitForLimit", "()I"⟩ ∈ AW := aw_t (i := 817) (by decide +kernel) rfl
theorem aw_819 : Cond.instanceMethod ⟨"Writeback", "waitForLimit", "()I"⟩ ∈ AW := aw_t (i := 819) (by decide +kernel) rfl
theorem aw_p22 : Cond.selects "Writeback" ⟨"Writeback", "waitForLimit", "()I"⟩ ⟨"Writeback", "waitForLimit", "()I"⟩ ∈ AW := aw_s (i := 22) (by decide +kernel) rfl
theorem aw_121 : Cond.fieldLink "Writeback" 205 "Writeback$Frame" "pins" "I" ∈ AW := aw_t (i := 121) (by decide +kernel) rfl
theorem aw_211 : Cond.fieldLink "Writeback" 224 "Writeback$Work" "begun" "I" ∈ AW := aw_t (i := 211) (by decide +kernel) rfl
theorem aw_190 : Cond.fieldLink "Writeback" 281 "Writeback$Log" "has" "[Z" ∈ AW := aw_t (i := 190) (by decide +kernel) rfl
theorem aw_910 : Cond.methodLink "Writeback" 462 ⟨"Writeback$Frame", "isPlainDirty", "()Z"⟩ ∈ AW := aw_t (i := 910) (by decide +kernel) rfl
theorem aw_900 : Cond.code ⟨"Writeback", "checkWork", "()V"⟩ prog_1_method_49_code 1 none ∈ AW := aw_t (i := 900) (by decide +kernel) rfl
theorem aw_897 : Cond.methodLink "Writeback" 227 ⟨"Writeback", "checkWork", "()V"⟩ ∈ AW := aw_t (i := 897) (by decide +kernel) rfl
theorem aw_899 : Cond.instanceMethod ⟨"Writeback", "checkWork", "()V"⟩ ∈ AW := aw_t (i := 899) (by decide +kernel) rfl
theorem aw_p23 : Cond.selects "Writeback" ⟨"Writeback", "checkWork", "()V"⟩ ⟨"Writeback", "checkWork", "()V"⟩ ∈ AW := aw_s (i := 23) (by decide +kernel) rfl
theorem aw_194 : Cond.fieldLink "Writeback" 230 "Writeback$Log" "size" "I" ∈ AW := aw_t (i := 194) (by decide +kernel) rfl
theorem aw_905 : Cond.code ⟨"Writeback", "countNewToLog", "()I"⟩ prog_1_method_72_code 4 (some .int) ∈ AW := aw_t (i := 905) (by decide +kernel) rfl
theorem aw_902 : Cond.methodLink "Writeback" 231 ⟨"Writeback", "countNewToLog", "()I"⟩ ∈ AW := aw_t (i := 902) (by decide +kernel) rfl
theorem aw_904 : Cond.instanceMethod ⟨"Writeback", "countNewToLog", "()I"⟩ ∈ AW := aw_t (i := 904) (by decide +kernel) rfl
theorem aw_p24 : Cond.selects "Writeback" ⟨"Writeback", "countNewToLog", "()I"⟩ ⟨"Writeback", "countNewToLog", "()I"⟩ ∈ AW := aw_s (i := 24) (by decide +kernel) rfl
theorem aw_909 : Cond.code ⟨"Writeback", "flushSpots", "(II)I"⟩ prog_1_method_71_code 6 (some .int) ∈ AW := aw_t (i := 909) (by decide +kernel) rfl
theorem aw_906 : Cond.methodLink "Writeback" 234 ⟨"Writeback", "flushSpots", "(II)I"⟩ ∈ AW := aw_t (i := 906) (by decide +kernel) rfl
theorem aw_908 : Cond.instanceMethod ⟨"Writeback", "flushSpots", "(II)I"⟩ ∈ AW := aw_t (i := 908) (by decide +kernel) rfl
theorem aw_p25 : Cond.selects "Writeback" ⟨"Writeback", "flushSpots", "(II)I"⟩ ⟨"Writeback", "flushSpots", "(II)I"⟩ ∈ AW := aw_s (i := 25) (by decide +kernel) rfl
theorem aw_914 : Cond.code ⟨"Writeback$Log", "keep", "(II)V"⟩ prog_7_method_2_code 3 none ∈ AW := aw_t (i := 914) (by decide +kernel) rfl
theorem aw_911 : Cond.methodLink "Writeback" 246 ⟨"Writeback$Log", "keep", "(II)V"⟩ ∈ AW := aw_t (i := 911) (by decide +kernel) rfl
theorem aw_912 : Cond.instanceMethod ⟨"Writeback$Log", "keep", "(II)V"⟩ ∈ AW := aw_t (i := 912) (by decide +kernel) rfl
theorem aw_913 : Cond.selects "Writeback$Log" ⟨"Writeback$Log", "keep", "(II)V"⟩ ⟨"Writeback$Log", "keep", "(II)V"⟩ ∈ AW := aw_t (i := 913) (by decide +kernel) rfl
theorem aw_925 : Cond.code ⟨"Writeback$Frame", "goBack", "()V"⟩ prog_5_method_6_code 1 none ∈ AW := aw_t (i := 925) (by decide +kernel) rfl
theorem aw_922 : Cond.methodLink "Writeback" 255 ⟨"Writeback$Frame", "goBack", "()V"⟩ ∈ AW := aw_t (i := 922) (by decide +kernel) rfl
theorem aw_923 : Cond.instanceMethod ⟨"Writeback$Frame", "goBack", "()V"⟩ ∈ AW := aw_t (i := 923) (by decide +kernel) rfl
theorem aw_924 : Cond.selects "Writeback$Frame" ⟨"Writeback$Frame", "goBack", "()V"⟩ ⟨"Writeback$Frame", "goBack", "()V"⟩ ∈ AW := aw_t (i := 924) (by decide +kernel) rfl
theorem aw_64 : Cond.fieldLink "Writeback" 258 "Writeback$Device" "arm" "I" ∈ AW := aw_t (i := 64) (by decide +kernel) rfl
theorem aw_941 : Cond.methodLink "Writeback" 261 ⟨"java/lang/Math", "max", "(II)I"⟩ ∈ AW := aw_t (i := 941) (by decide +kernel) rfl
theorem aw_942 : Cond.static ⟨"java/lang/Math", "max", "(II)I"⟩ ∈ AW := aw_t (i := 942) (by decide +kernel) rfl
theorem aw_944 : Cond.methodLink "Writeback" 266 ⟨"java/lang/Math", "min", "(II)I"⟩ ∈ AW := aw_t (i := 944) (by decide +kernel) rfl
theorem aw_945 : Cond.static ⟨"java/lang/Math", "min", "(II)I"⟩ ∈ AW := aw_t (i := 945) (by decide +kernel) rfl
theorem aw_192 : Cond.fieldLink "Writeback" 285 "Writeback$Log" "values" "[I" ∈ AW := aw_t (i := 192) (by decide +kernel) rfl
theorem aw_987 : Cond.code ⟨"Writeback$Device", "damaged", "()I"⟩ prog_3_method_5_code 3 (some .int) ∈ AW := aw_t (i := 987) (by decide +kernel) rfl
theorem aw_984 : Cond.methodLink "Writeback" 297 ⟨"Writeback$Device", "damaged", "()I"⟩ ∈ AW := aw_t (i := 984) (by decide +kernel) rfl
theorem aw_985 : Cond.instanceMethod ⟨"Writeback$Device", "damaged", "()I"⟩ ∈ AW := aw_t (i := 985) (by decide +kernel) rfl
theorem aw_986 : Cond.selects "Writeback$Device" ⟨"Writeback$Device", "damaged", "()I"⟩ ⟨"Writeback$Device", "damaged", "()I"⟩ ∈ AW := aw_t (i := 986) (by decide +kernel) rfl
theorem aw_282 : Cond.fieldLink "Writeback" 300 "Writeback" "imagesKept" "I" ∈ AW := aw_t (i := 282) (by decide +kernel) rfl
theorem aw_997 : Cond.instantiable "Writeback$Image" 3 ∈ AW := aw_t (i := 997) (by decide +kernel) rfl
theorem aw_34 : Cond.initialized "Writeback$Image" ∈ AW := aw_t (i := 34) (by decide +kernel) rfl
theorem aw_60 : Cond.fieldLink "Writeback" 310 "Writeback$Device" "sums" "[I" ∈ AW := aw_t (i := 60) (by decide +kernel) rfl
theorem aw_1005 : Cond.methodLink "Writeback" 313 ⟨"Writeback$Image", "<init>", "(I[I[I)V"⟩ ∈ AW := aw_t (i := 1005) (by decide +kernel) rfl
theorem aw_1007 : Cond.code ⟨"Writeback$Image", "<init>", "(I[I[I)V"⟩ prog_6_method_1_code 4 none ∈ AW := aw_t (i := 1007) (by decide +kernel) rfl
theorem aw_1006 : Cond.instanceMethod ⟨"Writeback$Image", "<init>", "(I[I[I)V"⟩ ∈ AW := aw_t (i := 1006) (by decide +kernel) rfl
theorem aw_1032 : Cond.code ⟨"Writeback", "imageOf", "(I)LWriteback$Image;"⟩ prog_1_method_52_code 2 (some (.object "Writeback$Image")) ∈ AW := aw_t (i := 1032) (by decide +kernel) rfl
theorem aw_1029 : Cond.methodLink "Writeback" 316 ⟨"Writeback", "imageOf", "(I)LWriteback$Image;"⟩ ∈ AW := aw_t (i := 1029) (by decide +kernel) rfl
theorem aw_1031 : Cond.instanceMethod ⟨"Writeback", "imageOf", "(I)LWriteback$Image;"⟩ ∈ AW := aw_t (i := 1031) (by decide +kernel) rfl
theorem aw_p26 : Cond.selects "Writeback" ⟨"Writeback", "imageOf", "(I)LWriteback$Image;"⟩ ⟨"Writeback", "imageOf", "(I)LWriteback$Image;"⟩ ∈ AW := aw_s (i := 26) (by decide +kernel) rfl
theorem aw_1010 : Cond.fieldLink "Writeback" 320 "Writeback$Image" "device" "I" ∈ AW := aw_t (i := 1010) (by decide +kernel) rfl
theorem aw_1035 : Cond.methodLink "Writeback" 325 ⟨"Writeback$Pool", "dropSpots", "(II)V"⟩ ∈ AW := aw_t (i := 1035) (by decide +kernel) rfl
theorem aw_1012 : Cond.fieldLink "Writeback" 328 "Writeback$Image" "values" "[I" ∈ AW := aw_t (i := 1012) (by decide +kernel) rfl
theorem aw_1014 : Cond.fieldLink "Writeback" 329 "Writeback$Image" "sums" "[I" ∈ AW := aw_t (i := 1014) (by decide +kernel) rfl
theorem aw_1039 : Cond.code ⟨"Writeback$Device", "takeBack", "([I[I)I"⟩ prog_3_method_6_code 5 (some .int) ∈ AW := aw_t (i := 1039) (by decide +kernel) rfl
theorem aw_1036 : Cond.methodLink "Writeback" 330 ⟨"Writeback$Device", "takeBack", "([I[I)I"⟩ ∈ AW := aw_t (i := 1036) (by decide +kernel) rfl
theorem aw_1037 : Cond.instanceMethod ⟨"Writeback$Device", "takeBack", "([I[I)I"⟩ ∈ AW := aw_t (i := 1037) (by decide +kernel) rfl
theorem aw_1038 : Cond.selects "Writeback$Device" ⟨"Writeback$Device", "takeBack", "([I[I)I"⟩ ⟨"Writeback$Device", "takeBack", "([I[I)I"⟩ ∈ AW := aw_t (i := 1038) (by decide +kernel) rfl
theorem aw_343 : Cond.code ⟨"Writeback$Pool", "pages", "()I"⟩ prog_8_method_16_code 3 (some .int) ∈ AW := aw_t (i := 343) (by decide +kernel) rfl
theorem aw_340 : Cond.methodLink "Writeback" 334 ⟨"Writeback$Pool", "pages", "()I"⟩ ∈ AW := aw_t (i := 340) (by decide +kernel) rfl
theorem aw_341 : Cond.instanceMethod ⟨"Writeback$Pool", "pages", "()I"⟩ ∈ AW := aw_t (i := 341) (by decide +kernel) rfl
theorem aw_342 : Cond.selects "Writeback$Pool" ⟨"Writeback$Pool", "pages", "()I"⟩ ⟨"Writeback$Pool", "pages", "()I"⟩ ∈ AW := aw_t (i := 342) (by decide +kernel) rfl
theorem aw_62 : Cond.fieldLink "Writeback" 352 "Writeback$Device" "wear" "[I" ∈ AW := aw_t (i := 62) (by decide +kernel) rfl
theorem aw_430 : Cond.code ⟨"Writeback$Trace", "misses", "(CI)I"⟩ prog_9_method_3_code 6 (some .int) ∈ AW := aw_t (i := 430) (by decide +kernel) rfl
theorem aw_427 : Cond.methodLink "Writeback" 355 ⟨"Writeback$Trace", "misses", "(CI)I"⟩ ∈ AW := aw_t (i := 427) (by decide +kernel) rfl
theorem aw_428 : Cond.instanceMethod ⟨"Writeback$Trace", "misses", "(CI)I"⟩ ∈ AW := aw_t (i := 428) (by decide +kernel) rfl
theorem aw_429 : Cond.selects "Writeback$Trace" ⟨"Writeback$Trace", "misses", "(CI)I"⟩ ⟨"Writeback$Trace", "misses", "(CI)I"⟩ ∈ AW := aw_t (i := 429) (by decide +kernel) rfl
theorem aw_1096 : Cond.code ⟨"Writeback$Counts", "accesses", "()I"⟩ prog_2_method_2_code 1 (some .int) ∈ AW := aw_t (i := 1096) (by decide +kernel) rfl
theorem aw_1093 : Cond.methodLink "Writeback" 369 ⟨"Writeback$Counts", "accesses", "()I"⟩ ∈ AW := aw_t (i := 1093) (by decide +kernel) rfl
theorem aw_1094 : Cond.instanceMethod ⟨"Writeback$Counts", "accesses", "()I"⟩ ∈ AW := aw_t (i := 1094) (by decide +kernel) rfl
theorem aw_1095 : Cond.selects "Writeback$Counts" ⟨"Writeback$Counts", "accesses", "()I"⟩ ⟨"Writeback$Counts", "accesses", "()I"⟩ ∈ AW := aw_t (i := 1095) (by decide +kernel) rfl
theorem aw_1092 : Cond.code ⟨"Writeback", "checkAccesses", "()V"⟩ prog_1_method_50_code 1 none ∈ AW := aw_t (i := 1092) (by decide +kernel) rfl
theorem aw_1089 : Cond.methodLink "Writeback" 358 ⟨"Writeback", "checkAccesses", "()V"⟩ ∈ AW := aw_t (i := 1089) (by decide +kernel) rfl
theorem aw_1091 : Cond.instanceMethod ⟨"Writeback", "checkAccesses", "()V"⟩ ∈ AW := aw_t (i := 1091) (by decide +kernel) rfl
theorem aw_p27 : Cond.selects "Writeback" ⟨"Writeback", "checkAccesses", "()V"⟩ ⟨"Writeback", "checkAccesses", "()V"⟩ ∈ AW := aw_s (i := 27) (by decide +kernel) rfl
theorem aw_1103 : Cond.code ⟨"Writeback", "hitShare", "()F"⟩ prog_1_method_73_code 2 (some .float) ∈ AW := aw_t (i := 1103) (by decide +kernel) rfl
theorem aw_1100 : Cond.methodLink "Writeback" 361 ⟨"Writeback", "hitShare", "()F"⟩ ∈ AW := aw_t (i := 1100) (by decide +kernel) rfl
theorem aw_1102 : Cond.instanceMethod ⟨"Writeback", "hitShare", "()F"⟩ ∈ AW := aw_t (i := 1102) (by decide +kernel) rfl
theorem aw_p28 : Cond.selects "Writeback" ⟨"Writeback", "hitShare", "()F"⟩ ⟨"Writeback", "hitShare", "()F"⟩ ∈ AW := aw_s (i := 28) (by decide +kernel) rfl
theorem aw_1114 : Cond.constantFloat "Writeback" 465 (1258291200 : UInt32) ∈ AW := aw_t (i := 1114) (by decide +kernel) rfl
theorem aw_1113 : Cond.code ⟨"Writeback", "bitsOf", "(F)I"⟩ prog_1_method_74_code 4 (some .int) ∈ AW := aw_t (i := 1113) (by decide +kernel) rfl
theorem aw_1111 : Cond.methodLink "Writeback" 365 ⟨"Writeback", "bitsOf", "(F)I"⟩ ∈ AW := aw_t (i := 1111) (by decide +kernel) rfl
theorem aw_1112 : Cond.static ⟨"Writeback", "bitsOf", "(F)I"⟩ ∈ AW := aw_t (i := 1112) (by decide +kernel) rfl
theorem aw_384 : Cond.constantLong "Writeback" 372 (7 : Int64) ∈ AW := aw_t (i := 384) (by decide +kernel) rfl
theorem aw_385 : Cond.constantLong "Writeback" 374 (31 : Int64) ∈ AW := aw_t (i := 385) (by decide +kernel) rfl
theorem aw_390 : Cond.methodLink "Writeback" 376 ⟨"Writeback$Frame", "isFree", "()Z"⟩ ∈ AW := aw_t (i := 390) (by decide +kernel) rfl
theorem aw_398 : Cond.code ⟨"Writeback$Pool", "hasEachPageOnce", "()Z"⟩ prog_8_method_20_code 2 (some .boolean) ∈ AW := aw_t (i := 398) (by decide +kernel) rfl
theorem aw_395 : Cond.methodLink "Writeback" 379 ⟨"Writeback$Pool", "hasEachPageOnce", "()Z"⟩ ∈ AW := aw_t (i := 395) (by decide +kernel) rfl
theorem aw_396 : Cond.instanceMethod ⟨"Writeback$Pool", "hasEachPageOnce", "()Z"⟩ ∈ AW := aw_t (i := 396) (by decide +kernel) rfl
theorem aw_397 : Cond.selects "Writeback$Pool" ⟨"Writeback$Pool", "hasEachPageOnce", "()Z"⟩ ⟨"Writeback$Pool", "hasEachPageOnce", "()Z"⟩ ∈ AW := aw_t (i := 397) (by decide +kernel) rfl
theorem aw_406 : Cond.code ⟨"Writeback", "cleanPagesAreOnPlaces", "()Z"⟩ prog_1_method_75_code 3 (some .boolean) ∈ AW := aw_t (i := 406) (by decide +kernel) rfl
theorem aw_403 : Cond.methodLink "Writeback" 382 ⟨"Writeback", "cleanPagesAreOnPlaces", "()Z"⟩ ∈ AW := aw_t (i := 403) (by decide +kernel) rfl
theorem aw_405 : Cond.instanceMethod ⟨"Writeback", "cleanPagesAreOnPlaces", "()Z"⟩ ∈ AW := aw_t (i := 405) (by decide +kernel) rfl
theorem aw_p1 : Cond.selects "Writeback" ⟨"Writeback", "cleanPagesAreOnPlaces", "()Z"⟩ ⟨"Writeback", "cleanPagesAreOnPlaces", "()Z"⟩ ∈ AW := aw_s (i := 1) (by decide +kernel) rfl
theorem aw_418 : Cond.code ⟨"Writeback", "logIsOfDirtyPages", "()Z"⟩ prog_1_method_76_code 3 (some .boolean) ∈ AW := aw_t (i := 418) (by decide +kernel) rfl
theorem aw_415 : Cond.methodLink "Writeback" 385 ⟨"Writeback", "logIsOfDirtyPages", "()Z"⟩ ∈ AW := aw_t (i := 415) (by decide +kernel) rfl
theorem aw_417 : Cond.instanceMethod ⟨"Writeback", "logIsOfDirtyPages", "()Z"⟩ ∈ AW := aw_t (i := 417) (by decide +kernel) rfl
theorem aw_p3 : Cond.selects "Writeback" ⟨"Writeback", "logIsOfDirtyPages", "()Z"⟩ ⟨"Writeback", "logIsOfDirtyPages", "()Z"⟩ ∈ AW := aw_s (i := 3) (by decide +kernel) rfl
theorem aw_422 : Cond.code ⟨"Writeback$Pool", "pagesOfWork", "()I"⟩ prog_8_method_18_code 3 (some .int) ∈ AW := aw_t (i := 422) (by decide +kernel) rfl
theorem aw_419 : Cond.methodLink "Writeback" 388 ⟨"Writeback$Pool", "pagesOfWork", "()I"⟩ ∈ AW := aw_t (i := 419) (by decide +kernel) rfl
theorem aw_420 : Cond.instanceMethod ⟨"Writeback$Pool", "pagesOfWork", "()I"⟩ ∈ AW := aw_t (i := 420) (by decide +kernel) rfl
theorem aw_421 : Cond.selects "Writeback$Pool" ⟨"Writeback$Pool", "pagesOfWork", "()I"⟩ ⟨"Writeback$Pool", "pagesOfWork", "()I"⟩ ∈ AW := aw_t (i := 421) (by decide +kernel) rfl
theorem aw_426 : Cond.code ⟨"Writeback", "bestIsBest", "()Z"⟩ prog_1_method_77_code 2 (some .boolean) ∈ AW := aw_t (i := 426) (by decide +kernel) rfl
theorem aw_423 : Cond.methodLink "Writeback" 391 ⟨"Writeback", "bestIsBest", "()Z"⟩ ∈ AW := aw_t (i := 423) (by decide +kernel) rfl
theorem aw_425 : Cond.instanceMethod ⟨"Writeback", "bestIsBest", "()Z"⟩ ∈ AW := aw_t (i := 425) (by decide +kernel) rfl
theorem aw_p4 : Cond.selects "Writeback" ⟨"Writeback", "bestIsBest", "()Z"⟩ ⟨"Writeback", "bestIsBest", "()Z"⟩ ∈ AW := aw_s (i := 4) (by decide +kernel) rfl
theorem aw_1649 : Cond.methodLink "WritebackModel$Image" 3 ⟨"java/lang/Object", "<init>", "()V"⟩ ∈ AW := aw_t (i := 1649) (by decide +kernel) rfl
theorem aw_1652 : Cond.fieldLink "WritebackModel$Image" 9 "WritebackModel$Image" "values" "[I" ∈ AW := aw_t (i := 1652) (by decide +kernel) rfl
theorem aw_1654 : Cond.fieldLink "WritebackModel$Image" 15 "WritebackModel$Image" "sums" "[I" ∈ AW := aw_t (i := 1654) (by decide +kernel) rfl
theorem aw_1650 : Cond.fieldLink "WritebackModel$Image" 18 "WritebackModel$Image" "device" "I" ∈ AW := aw_t (i := 1650) (by decide +kernel) rfl
theorem aw_1490 : Cond.methodLink "WritebackModel$Page" 3 ⟨"java/lang/Object", "<init>", "()V"⟩ ∈ AW := aw_t (i := 1490) (by decide +kernel) rfl
theorem aw_1360 : Cond.constantLong "WritebackModel$Page" 9 (-1 : Int64) ∈ AW := aw_t (i := 1360) (by decide +kernel) rfl
theorem aw_1496 : Cond.fieldLink "WritebackModel$Page" 11 "WritebackModel$Page" "since" "J" ∈ AW := aw_t (i := 1496) (by decide +kernel) rfl
theorem aw_1500 : Cond.fieldLink "WritebackModel$Page" 17 "WritebackModel$Page" "isMarked" "Z" ∈ AW := aw_t (i := 1500) (by decide +kernel) rfl
theorem aw_1491 : Cond.fieldLink "WritebackModel$Page" 21 "WritebackModel$Page" "place" "I" ∈ AW := aw_t (i := 1491) (by decide +kernel) rfl
theorem aw_1494 : Cond.fieldLink "WritebackModel$Page" 25 "WritebackModel$Page" "pins" "I" ∈ AW := aw_t (i := 1494) (by decide +kernel) rfl
theorem aw_1503 : Cond.fieldLink "WritebackModel$Page" 28 "WritebackModel$Page" "isOurs" "Z" ∈ AW := aw_t (i := 1503) (by decide +kernel) rfl
theorem aw_1127 : Cond.methodLink "WritebackModel" 1 ⟨"java/lang/Object", "<init>", "()V"⟩ ∈ AW := aw_t (i := 1127) (by decide +kernel) rfl
theorem aw_1157 : Cond.fieldLink "WritebackModel" 9 "WritebackModel" "values" "[I" ∈ AW := aw_t (i := 1157) (by decide +kernel) rfl
theorem aw_1158 : Cond.fieldLink "WritebackModel" 13 "WritebackModel" "sums" "[I" ∈ AW := aw_t (i := 1158) (by decide +kernel) rfl
theorem aw_1159 : Cond.fieldLink "WritebackModel" 16 "WritebackModel" "wear" "[I" ∈ AW := aw_t (i := 1159) (by decide +kernel) rfl
theorem aw_1128 : Cond.classLink "WritebackModel" 19 "java/util/ArrayList" ∈ AW := aw_t (i := 1128) (by decide +kernel) rfl
theorem aw_1129 : Cond.instantiable "java/util/ArrayList" 3 ∈ AW := aw_t (i := 1129) (by decide +kernel) rfl
theorem aw_13 : Cond.initialized "java/util/ArrayList" ∈ AW := aw_t (i := 13) (by decide +kernel) rfl
theorem aw_1160 : Cond.fieldLink "WritebackModel" 22 "WritebackModel" "files" "Ljava/util/ArrayList;" ∈ AW := aw_t (i := 1160) (by decide +kernel) rfl
theorem aw_1161 : Cond.fieldLink "WritebackModel" 26 "WritebackModel" "lastRead" "[I" ∈ AW := aw_t (i := 1161) (by decide +kernel) rfl
theorem aw_1162 : Cond.fieldLink "WritebackModel" 29 "WritebackModel" "onDevice" "[I" ∈ AW := aw_t (i := 1162) (by decide +kernel) rfl
theorem aw_1154 : Cond.classLink "WritebackModel" 32 "WritebackModel$Page" ∈ AW := aw_t (i := 1154) (by decide +kernel) rfl
theorem aw_1163 : Cond.fieldLink "WritebackModel" 34 "WritebackModel" "pages" "[LWritebackModel$Page;" ∈ AW := aw_t (i := 1163) (by decide +kernel) rfl
theorem aw_1164 : Cond.fieldLink "WritebackModel" 38 "WritebackModel" "frames" "I" ∈ AW := aw_t (i := 1164) (by decide +kernel) rfl
theorem aw_1165 : Cond.fieldLink "WritebackModel" 42 "WritebackModel" "policy" "C" ∈ AW := aw_t (i := 1165) (by decide +kernel) rfl
theorem aw_1166 : Cond.fieldLink "WritebackModel" 46 "WritebackModel" "limit" "I" ∈ AW := aw_t (i := 1166) (by decide +kernel) rfl
theorem aw_1171 : Cond.fieldLink "WritebackModel" 49 "WritebackModel" "bills" "[J" ∈ AW := aw_t (i := 1171) (by decide +kernel) rfl
theorem aw_1172 : Cond.fieldLink "WritebackModel" 53 "WritebackModel" "log" "[I" ∈ AW := aw_t (i := 1172) (by decide +kernel) rfl
theorem aw_1175 : Cond.fieldLink "WritebackModel" 56 "WritebackModel" "hasPower" "Z" ∈ AW := aw_t (i := 1175) (by decide +kernel) rfl
theorem aw_1177 : Cond.fieldLink "WritebackModel" 60 "WritebackModel" "images" "Ljava/util/ArrayList;" ∈ AW := aw_t (i := 1177) (by decide +kernel) rfl
theorem aw_1178 : Cond.fieldLink "WritebackModel" 63 "WritebackModel" "trace" "Ljava/util/ArrayList;" ∈ AW := aw_t (i := 1178) (by decide +kernel) rfl
theorem aw_1156 : Cond.fieldLink "WritebackModel" 66 "WritebackModel" "thrown" "I" ∈ AW := aw_t (i := 1156) (by decide +kernel) rfl
theorem aw_1254 : Cond.code ⟨"WritebackModel", "in", "(JJJ)Z"⟩ prog_12_method_1_code 6 (some .boolean) ∈ AW := aw_t (i := 1254) (by decide +kernel) rfl
theorem aw_1252 : Cond.methodLink "WritebackModel" 69 ⟨"WritebackModel", "in", "(JJJ)Z"⟩ ∈ AW := aw_t (i := 1252) (by decide +kernel) rfl
theorem aw_1253 : Cond.static ⟨"WritebackModel", "in", "(JJJ)Z"⟩ ∈ AW := aw_t (i := 1253) (by decide +kernel) rfl
theorem aw_10 : Cond.initialized "WritebackModel" ∈ AW := aw_t (i := 10) (by decide +kernel) rfl
theorem aw_1176 : Cond.fieldLink "WritebackModel" 123 "WritebackModel" "toFail" "I" ∈ AW := aw_t (i := 1176) (by decide +kernel) rfl
theorem aw_1173 : Cond.fieldLink "WritebackModel" 126 "WritebackModel" "goesOn" "Z" ∈ AW := aw_t (i := 1173) (by decide +kernel) rfl
theorem aw_1372 : Cond.code ⟨"WritebackModel", "falls", "()V"⟩ prog_12_method_11_code 2 none ∈ AW := aw_t (i := 1372) (by decide +kernel) rfl
theorem aw_1369 : Cond.methodLink "WritebackModel" 129 ⟨"WritebackModel", "falls", "()V"⟩ ∈ AW := aw_t (i := 1369) (by decide +kernel) rfl
theorem aw_1371 : Cond.instanceMethod ⟨"WritebackModel", "falls", "()V"⟩ ∈ AW := aw_t (i := 1371) (by decide +kernel) rfl
theorem aw_p35 : Cond.selects "WritebackModel" ⟨"WritebackModel", "falls", "()V"⟩ ⟨"WritebackModel", "falls", "()V"⟩ ∈ AW := aw_s (i := 35) (by decide +kernel) rfl
theorem aw_1168 : Cond.fieldLink "WritebackModel" 113 "WritebackModel" "tenant" "I" ∈ AW := aw_t (i := 1168) (by decide +kernel) rfl
theorem aw_1170 : Cond.fieldLink "WritebackModel" 116 "WritebackModel" "arm" "I" ∈ AW := aw_t (i := 1170) (by decide +kernel) rfl
theorem aw_1381 : Cond.methodLink "WritebackModel" 119 ⟨"java/lang/Math", "abs", "(I)I"⟩ ∈ AW := aw_t (i := 1381) (by decide +kernel) rfl
theorem aw_1380 : Cond.code ⟨"WritebackModel", "costs", "(I)V"⟩ prog_12_method_10_code 2 none ∈ AW := aw_t (i := 1380) (by decide +kernel) rfl
theorem aw_1377 : Cond.methodLink "WritebackModel" 132 ⟨"WritebackModel", "costs", "(I)V"⟩ ∈ AW := aw_t (i := 1377) (by decide +kernel) rfl
theorem aw_1379 : Cond.instanceMethod ⟨"WritebackModel", "costs", "(I)V"⟩ ∈ AW := aw_t (i := 1379) (by decide +kernel) rfl
theorem aw_p37 : Cond.selects "WritebackModel" ⟨"WritebackModel", "costs", "(I)V"⟩ ⟨"WritebackModel", "costs", "(I)V"⟩ ∈ AW := aw_s (i := 37) (by decide +kernel) rfl
theorem aw_1368 : Cond.code ⟨"WritebackModel", "fails", "()Z"⟩ prog_12_method_12_code 1 (some .boolean) ∈ AW := aw_t (i := 1368) (by decide +kernel) rfl
theorem aw_1365 : Cond.methodLink "WritebackModel" 136 ⟨"WritebackModel", "fails", "()Z"⟩ ∈ AW := aw_t (i := 1365) (by decide +kernel) rfl
theorem aw_1367 : Cond.instanceMethod ⟨"WritebackModel", "fails", "()Z"⟩ ∈ AW := aw_t (i := 1367) (by decide +kernel) rfl
theorem aw_p34 : Cond.selects "WritebackModel" ⟨"WritebackModel", "fails", "()Z"⟩ ⟨"WritebackModel", "fails", "()Z"⟩ ∈ AW := aw_s (i := 34) (by decide +kernel) rfl
theorem aw_1492 : Cond.fieldLinkNest "WritebackModel" 139 "WritebackModel$Page" "place" "I" "WritebackModel" ∈ OW := ow_t (i := 1492) (by decide +kernel) rfl
theorem aw_1493 : Cond.fieldLinkNest "WritebackModel" 142 "WritebackModel$Page" "value" "I" "WritebackModel" ∈ OW := ow_t (i := 1493) (by decide +kernel) rfl
theorem aw_1376 : Cond.code ⟨"WritebackModel", "puts", "(II)V"⟩ prog_12_method_13_code 3 none ∈ AW := aw_t (i := 1376) (by decide +kernel) rfl
theorem aw_1373 : Cond.methodLink "WritebackModel" 145 ⟨"WritebackModel", "puts", "(II)V"⟩ ∈ AW := aw_t (i := 1373) (by decide +kernel) rfl
theorem aw_1375 : Cond.instanceMethod ⟨"WritebackModel", "puts", "(II)V"⟩ ∈ AW := aw_t (i := 1375) (by decide +kernel) rfl
theorem aw_p36 : Cond.selects "WritebackModel" ⟨"WritebackModel", "puts", "(II)V"⟩ ⟨"WritebackModel", "puts", "(II)V"⟩ ∈ AW := aw_s (i := 36) (by decide +kernel) rfl
theorem aw_1382 : Cond.constantLong "WritebackModel" 149 (-1 : Int64) ∈ AW := aw_t (i := 1382) (by decide +kernel) rfl
theorem aw_1497 : Cond.fieldLinkNest "WritebackModel" 151 "WritebackModel$Page" "since" "J" "WritebackModel" ∈ OW := ow_t (i := 1497) (by decide +kernel) rfl
theorem aw_1359 : Cond.code ⟨"WritebackModel$Page", "isDirty", "()Z"⟩ prog_14_method_2_code 1 (some .boolean) ∈ AW := aw_t (i := 1359) (by decide +kernel) rfl
theorem aw_1356 : Cond.methodLink "WritebackModel" 155 ⟨"WritebackModel$Page", "isDirty", "()Z"⟩ ∈ AW := aw_t (i := 1356) (by decide +kernel) rfl
theorem aw_1357 : Cond.instanceMethod ⟨"WritebackModel$Page", "isDirty", "()Z"⟩ ∈ AW := aw_t (i := 1357) (by decide +kernel) rfl
theorem aw_1358 : Cond.selects "WritebackModel$Page" ⟨"WritebackModel$Page", "isDirty", "()Z"⟩ ⟨"WritebackModel$Page", "isDirty", "()Z"⟩ ∈ AW := aw_t (i := 1358) (by decide +kernel) rfl
theorem aw_32 : Cond.initialized "WritebackModel$Page" ∈ AW := aw_t (i := 32) (by decide +kernel) rfl
theorem aw_1364 : Cond.code ⟨"WritebackModel", "flushes", "(LWritebackModel$Page;)Z"⟩ prog_12_method_14_code 2 (some .boolean) ∈ AW := aw_t (i := 1364) (by decide +kernel) rfl
theorem aw_1361 : Cond.methodLink "WritebackModel" 158 ⟨"WritebackModel", "flushes", "(LWritebackModel$Page;)Z"⟩ ∈ AW := aw_t (i := 1361) (by decide +kernel) rfl
theorem aw_1363 : Cond.instanceMethod ⟨"WritebackModel", "flushes", "(LWritebackModel$Page;)Z"⟩ ∈ AW := aw_t (i := 1363) (by decide +kernel) rfl
theorem aw_p33 : Cond.selects "WritebackModel" ⟨"WritebackModel", "flushes", "(LWritebackModel$Page;)Z"⟩ ⟨"WritebackModel", "flushes", "(LWritebackModel$Page;)Z"⟩ ∈ AW := aw_s (i := 33) (by decide +kernel) rfl
theorem aw_1346 : Cond.methodLink "WritebackModel" 87 ⟨"java/lang/Math", "max", "(II)I"⟩ ∈ AW := aw_t (i := 1346) (by decide +kernel) rfl
theorem aw_1350 : Cond.code ⟨"WritebackModel$Page", "canGo", "()Z"⟩ prog_14_method_3_code 1 (some .boolean) ∈ AW := aw_t (i := 1350) (by decide +kernel) rfl
theorem aw_1347 : Cond.methodLink "WritebackModel" 93 ⟨"WritebackModel$Page", "canGo", "()Z"⟩ ∈ AW := aw_t (i := 1347) (by decide +kernel) rfl
theorem aw_1348 : Cond.instanceMethod ⟨"WritebackModel$Page", "canGo", "()Z"⟩ ∈ AW := aw_t (i := 1348) (by decide +kernel) rfl
theorem aw_1349 : Cond.selects "WritebackModel$Page" ⟨"WritebackModel$Page", "canGo", "()Z"⟩ ⟨"WritebackModel$Page", "canGo", "()Z"⟩ ∈ AW := aw_t (i := 1349) (by decide +kernel) rfl
theorem aw_1351 : Cond.constantLong "WritebackModel" 97 (16 : Int64) ∈ AW := aw_t (i := 1351) (by decide +kernel) rfl
theorem aw_1355 : Cond.code ⟨"WritebackModel", "leaves", "(I)Z"⟩ prog_12_method_15_code 3 (some .boolean) ∈ AW := aw_t (i := 1355) (by decide +kernel) rfl
theorem aw_1352 : Cond.methodLink "WritebackModel" 99 ⟨"WritebackModel", "leaves", "(I)Z"⟩ ∈ AW := aw_t (i := 1352) (by decide +kernel) rfl
theorem aw_1354 : Cond.instanceMethod ⟨"WritebackModel", "leaves", "(I)Z"⟩ ∈ AW := aw_t (i := 1354) (by decide +kernel) rfl
theorem aw_p32 : Cond.selects "WritebackModel" ⟨"WritebackModel", "leaves", "(I)Z"⟩ ⟨"WritebackModel", "leaves", "(I)Z"⟩ ∈ AW := aw_s (i := 32) (by decide +kernel) rfl
theorem aw_1169 : Cond.fieldLink "WritebackModel" 103 "WritebackModel" "hand" "I" ∈ AW := aw_t (i := 1169) (by decide +kernel) rfl
theorem aw_1395 : Cond.constantLong "WritebackModel" 106 (4 : Int64) ∈ AW := aw_t (i := 1395) (by decide +kernel) rfl
theorem aw_1167 : Cond.fieldLink "WritebackModel" 108 "WritebackModel" "window" "I" ∈ AW := aw_t (i := 1167) (by decide +kernel) rfl
theorem aw_1400 : Cond.constantLong "WritebackModel" 111 (2 : Int64) ∈ AW := aw_t (i := 1400) (by decide +kernel) rfl
theorem aw_1452 : Cond.code ⟨"WritebackModel", "canGo", "(IZI)Z"⟩ prog_12_method_19_code 5 (some .boolean) ∈ AW := aw_t (i := 1452) (by decide +kernel) rfl
theorem aw_1449 : Cond.methodLink "WritebackModel" 169 ⟨"WritebackModel", "canGo", "(IZI)Z"⟩ ∈ AW := aw_t (i := 1449) (by decide +kernel) rfl
theorem aw_1451 : Cond.instanceMethod ⟨"WritebackModel", "canGo", "(IZI)Z"⟩ ∈ AW := aw_t (i := 1451) (by decide +kernel) rfl
theorem aw_p44 : Cond.selects "WritebackModel" ⟨"WritebackModel", "canGo", "(IZI)Z"⟩ ⟨"WritebackModel", "canGo", "(IZI)Z"⟩ ∈ AW := aw_s (i := 44) (by decide +kernel) rfl
theorem aw_1498 : Cond.fieldLinkNest "WritebackModel" 179 "WritebackModel$Page" "used" "J" "WritebackModel" ∈ OW := ow_t (i := 1498) (by decide +kernel) rfl
theorem aw_1499 : Cond.fieldLinkNest "WritebackModel" 182 "WritebackModel$Page" "came" "J" "WritebackModel" ∈ OW := ow_t (i := 1499) (by decide +kernel) rfl
theorem aw_1501 : Cond.fieldLinkNest "WritebackModel" 172 "WritebackModel$Page" "isMarked" "Z" "WritebackModel" ∈ OW := ow_t (i := 1501) (by decide +kernel) rfl
theorem aw_1481 : Cond.code ⟨"WritebackModel", "key", "(I)J"⟩ prog_12_method_22_code 2 (some .long) ∈ AW := aw_t (i := 1481) (by decide +kernel) rfl
theorem aw_1478 : Cond.methodLink "WritebackModel" 175 ⟨"WritebackModel", "key", "(I)J"⟩ ∈ AW := aw_t (i := 1478) (by decide +kernel) rfl
theorem aw_1480 : Cond.instanceMethod ⟨"WritebackModel", "key", "(I)J"⟩ ∈ AW := aw_t (i := 1480) (by decide +kernel) rfl
theorem aw_p50 : Cond.selects "WritebackModel" ⟨"WritebackModel", "key", "(I)J"⟩ ⟨"WritebackModel", "key", "(I)J"⟩ ∈ AW := aw_s (i := 50) (by decide +kernel) rfl
theorem aw_1444 : Cond.code ⟨"WritebackModel", "free", "()I"⟩ prog_12_method_18_code 2 (some .int) ∈ AW := aw_t (i := 1444) (by decide +kernel) rfl
theorem aw_1441 : Cond.methodLink "WritebackModel" 185 ⟨"WritebackModel", "free", "()I"⟩ ∈ AW := aw_t (i := 1441) (by decide +kernel) rfl
theorem aw_1443 : Cond.instanceMethod ⟨"WritebackModel", "free", "()I"⟩ ∈ AW := aw_t (i := 1443) (by decide +kernel) rfl
theorem aw_p42 : Cond.selects "WritebackModel" ⟨"WritebackModel", "free", "()I"⟩ ⟨"WritebackModel", "free", "()I"⟩ ∈ AW := aw_s (i := 42) (by decide +kernel) rfl
theorem aw_1477 : Cond.code ⟨"WritebackModel", "chosen", "(ZI)I"⟩ prog_12_method_21_code 6 (some .int) ∈ AW := aw_t (i := 1477) (by decide +kernel) rfl
theorem aw_1474 : Cond.methodLink "WritebackModel" 188 ⟨"WritebackModel", "chosen", "(ZI)I"⟩ ∈ AW := aw_t (i := 1474) (by decide +kernel) rfl
theorem aw_1476 : Cond.instanceMethod ⟨"WritebackModel", "chosen", "(ZI)I"⟩ ∈ AW := aw_t (i := 1476) (by decide +kernel) rfl
theorem aw_p49 : Cond.selects "WritebackModel" ⟨"WritebackModel", "chosen", "(ZI)I"⟩ ⟨"WritebackModel", "chosen", "(ZI)I"⟩ ∈ AW := aw_s (i := 49) (by decide +kernel) rfl
theorem aw_1184 : Cond.fieldLink "WritebackModel" 192 "WritebackModel" "clock" "J" ∈ AW := aw_t (i := 1184) (by decide +kernel) rfl
theorem aw_1486 : Cond.instantiable "WritebackModel$Page" 12 ∈ AW := aw_t (i := 1486) (by decide +kernel) rfl
theorem aw_1487 : Cond.methodLink "WritebackModel" 195 ⟨"WritebackModel$Page", "<init>", "(I)V"⟩ ∈ AW := aw_t (i := 1487) (by decide +kernel) rfl
theorem aw_1489 : Cond.code ⟨"WritebackModel$Page", "<init>", "(I)V"⟩ prog_14_method_1_code 2 none ∈ AW := aw_t (i := 1489) (by decide +kernel) rfl
theorem aw_1488 : Cond.instanceMethod ⟨"WritebackModel$Page", "<init>", "(I)V"⟩ ∈ AW := aw_t (i := 1488) (by decide +kernel) rfl
theorem aw_1183 : Cond.fieldLink "WritebackModel" 197 "WritebackModel" "useful" "I" ∈ AW := aw_t (i := 1183) (by decide +kernel) rfl
theorem aw_1502 : Cond.fieldLinkNest "WritebackModel" 200 "WritebackModel$Page" "isAhead" "Z" "WritebackModel" ∈ OW := ow_t (i := 1502) (by decide +kernel) rfl
theorem aw_1409 : Cond.constantLong "WritebackModel" 203 (15 : Int64) ∈ AW := aw_t (i := 1409) (by decide +kernel) rfl
theorem aw_1179 : Cond.fieldLink "WritebackModel" 205 "WritebackModel" "hits" "I" ∈ AW := aw_t (i := 1179) (by decide +kernel) rfl
theorem aw_1180 : Cond.fieldLink "WritebackModel" 208 "WritebackModel" "misses" "I" ∈ AW := aw_t (i := 1180) (by decide +kernel) rfl
theorem aw_1413 : Cond.code ⟨"WritebackModel", "placeOf", "(II)I"⟩ prog_12_method_16_code 3 (some .int) ∈ AW := aw_t (i := 1413) (by decide +kernel) rfl
theorem aw_1410 : Cond.methodLink "WritebackModel" 218 ⟨"WritebackModel", "placeOf", "(II)I"⟩ ∈ AW := aw_t (i := 1410) (by decide +kernel) rfl
theorem aw_1412 : Cond.instanceMethod ⟨"WritebackModel", "placeOf", "(II)I"⟩ ∈ AW := aw_t (i := 1412) (by decide +kernel) rfl
theorem aw_p39 : Cond.selects "WritebackModel" ⟨"WritebackModel", "placeOf", "(II)I"⟩ ⟨"WritebackModel", "placeOf", "(II)I"⟩ ∈ AW := aw_s (i := 39) (by decide +kernel) rfl
theorem aw_1436 : Cond.code ⟨"WritebackModel", "frameWith", "(I)I"⟩ prog_12_method_17_code 4 (some .int) ∈ AW := aw_t (i := 1436) (by decide +kernel) rfl
theorem aw_1433 : Cond.methodLink "WritebackModel" 221 ⟨"WritebackModel", "frameWith", "(I)I"⟩ ∈ AW := aw_t (i := 1433) (by decide +kernel) rfl
theorem aw_1435 : Cond.instanceMethod ⟨"WritebackModel", "frameWith", "(I)I"⟩ ∈ AW := aw_t (i := 1435) (by decide +kernel) rfl
theorem aw_p40 : Cond.selects "WritebackModel" ⟨"WritebackModel", "frameWith", "(I)I"⟩ ⟨"WritebackModel", "frameWith", "(I)I"⟩ ∈ AW := aw_s (i := 40) (by decide +kernel) rfl
theorem aw_1440 : Cond.code ⟨"WritebackModel", "isDamaged", "(I)Z"⟩ prog_12_method_28_code 2 (some .boolean) ∈ AW := aw_t (i := 1440) (by decide +kernel) rfl
theorem aw_1437 : Cond.methodLink "WritebackModel" 224 ⟨"WritebackModel", "isDamaged", "(I)Z"⟩ ∈ AW := aw_t (i := 1437) (by decide +kernel) rfl
theorem aw_1439 : Cond.instanceMethod ⟨"WritebackModel", "isDamaged", "(I)Z"⟩ ∈ AW := aw_t (i := 1439) (by decide +kernel) rfl
theorem aw_p41 : Cond.selects "WritebackModel" ⟨"WritebackModel", "isDamaged", "(I)Z"⟩ ⟨"WritebackModel", "isDamaged", "(I)Z"⟩ ∈ AW := aw_s (i := 41) (by decide +kernel) rfl
theorem aw_1448 : Cond.code ⟨"WritebackModel", "someCanGo", "(ZI)Z"⟩ prog_12_method_20_code 5 (some .boolean) ∈ AW := aw_t (i := 1448) (by decide +kernel) rfl
theorem aw_1445 : Cond.methodLink "WritebackModel" 227 ⟨"WritebackModel", "someCanGo", "(ZI)Z"⟩ ∈ AW := aw_t (i := 1445) (by decide +kernel) rfl
theorem aw_1447 : Cond.instanceMethod ⟨"WritebackModel", "someCanGo", "(ZI)Z"⟩ ∈ AW := aw_t (i := 1447) (by decide +kernel) rfl
theorem aw_p43 : Cond.selects "WritebackModel" ⟨"WritebackModel", "someCanGo", "(ZI)Z"⟩ ⟨"WritebackModel", "someCanGo", "(ZI)Z"⟩ ∈ AW := aw_s (i := 43) (by decide +kernel) rfl
theorem aw_1485 : Cond.code ⟨"WritebackModel", "comes", "(II)LWritebackModel$Page;"⟩ prog_12_method_24_code 4 (some (.object "WritebackModel$Page")) ∈ AW := aw_t (i := 1485) (by decide +kernel) rfl
theorem aw_1482 : Cond.methodLink "WritebackModel" 242 ⟨"WritebackModel", "comes", "(II)LWritebackModel$Page;"⟩ ∈ AW := aw_t (i := 1482) (by decide +kernel) rfl
theorem aw_1484 : Cond.instanceMethod ⟨"WritebackModel", "comes", "(II)LWritebackModel$Page;"⟩ ∈ AW := aw_t (i := 1484) (by decide +kernel) rfl
theorem aw_p51 : Cond.selects "WritebackModel" ⟨"WritebackModel", "comes", "(II)LWritebackModel$Page;"⟩ ⟨"WritebackModel", "comes", "(II)LWritebackModel$Page;"⟩ ∈ AW := aw_s (i := 51) (by decide +kernel) rfl
theorem aw_1182 : Cond.fieldLink "WritebackModel" 249 "WritebackModel" "ahead" "I" ∈ AW := aw_t (i := 1182) (by decide +kernel) rfl
theorem aw_1408 : Cond.code ⟨"WritebackModel", "noBlock", "(II)Z"⟩ prog_12_method_26_code 3 (some .boolean) ∈ AW := aw_t (i := 1408) (by decide +kernel) rfl
theorem aw_1405 : Cond.methodLink "WritebackModel" 214 ⟨"WritebackModel", "noBlock", "(II)Z"⟩ ∈ AW := aw_t (i := 1405) (by decide +kernel) rfl
theorem aw_1407 : Cond.instanceMethod ⟨"WritebackModel", "noBlock", "(II)Z"⟩ ∈ AW := aw_t (i := 1407) (by decide +kernel) rfl
theorem aw_p38 : Cond.selects "WritebackModel" ⟨"WritebackModel", "noBlock", "(II)Z"⟩ ⟨"WritebackModel", "noBlock", "(II)Z"⟩ ∈ AW := aw_s (i := 38) (by decide +kernel) rfl
theorem aw_1456 : Cond.code ⟨"WritebackModel", "counts", "(IIZ)V"⟩ prog_12_method_27_code 5 none ∈ AW := aw_t (i := 1456) (by decide +kernel) rfl
theorem aw_1453 : Cond.methodLink "WritebackModel" 231 ⟨"WritebackModel", "counts", "(IIZ)V"⟩ ∈ AW := aw_t (i := 1453) (by decide +kernel) rfl
theorem aw_1455 : Cond.instanceMethod ⟨"WritebackModel", "counts", "(IIZ)V"⟩ ∈ AW := aw_t (i := 1455) (by decide +kernel) rfl
theorem aw_p45 : Cond.selects "WritebackModel" ⟨"WritebackModel", "counts", "(IIZ)V"⟩ ⟨"WritebackModel", "counts", "(IIZ)V"⟩ ∈ AW := aw_s (i := 45) (by decide +kernel) rfl
theorem aw_1469 : Cond.code ⟨"WritebackModel", "uses", "(LWritebackModel$Page;)V"⟩ prog_12_method_25_code 2 none ∈ AW := aw_t (i := 1469) (by decide +kernel) rfl
theorem aw_1466 : Cond.methodLink "WritebackModel" 235 ⟨"WritebackModel", "uses", "(LWritebackModel$Page;)V"⟩ ∈ AW := aw_t (i := 1466) (by decide +kernel) rfl
theorem aw_1468 : Cond.instanceMethod ⟨"WritebackModel", "uses", "(LWritebackModel$Page;)V"⟩ ∈ AW := aw_t (i := 1468) (by decide +kernel) rfl
theorem aw_p47 : Cond.selects "WritebackModel" ⟨"WritebackModel", "uses", "(LWritebackModel$Page;)V"⟩ ⟨"WritebackModel", "uses", "(LWritebackModel$Page;)V"⟩ ∈ AW := aw_s (i := 47) (by decide +kernel) rfl
theorem aw_1473 : Cond.code ⟨"WritebackModel", "takes", "()I"⟩ prog_12_method_23_code 2 (some .int) ∈ AW := aw_t (i := 1473) (by decide +kernel) rfl
theorem aw_1470 : Cond.methodLink "WritebackModel" 239 ⟨"WritebackModel", "takes", "()I"⟩ ∈ AW := aw_t (i := 1470) (by decide +kernel) rfl
theorem aw_1472 : Cond.instanceMethod ⟨"WritebackModel", "takes", "()I"⟩ ∈ AW := aw_t (i := 1472) (by decide +kernel) rfl
theorem aw_p48 : Cond.selects "WritebackModel" ⟨"WritebackModel", "takes", "()I"⟩ ⟨"WritebackModel", "takes", "()I"⟩ ∈ AW := aw_s (i := 48) (by decide +kernel) rfl
theorem aw_1536 : Cond.code ⟨"WritebackModel", "readsAhead", "(II)V"⟩ prog_12_method_30_code 8 none ∈ AW := aw_t (i := 1536) (by decide +kernel) rfl
theorem aw_1533 : Cond.methodLink "WritebackModel" 246 ⟨"WritebackModel", "readsAhead", "(II)V"⟩ ∈ AW := aw_t (i := 1533) (by decide +kernel) rfl
theorem aw_1535 : Cond.instanceMethod ⟨"WritebackModel", "readsAhead", "(II)V"⟩ ∈ AW := aw_t (i := 1535) (by decide +kernel) rfl
theorem aw_p52 : Cond.selects "WritebackModel" ⟨"WritebackModel", "readsAhead", "(II)V"⟩ ⟨"WritebackModel", "readsAhead", "(II)V"⟩ ∈ AW := aw_s (i := 52) (by decide +kernel) rfl
theorem aw_1504 : Cond.fieldLinkNest "WritebackModel" 252 "WritebackModel$Page" "isOurs" "Z" "WritebackModel" ∈ OW := ow_t (i := 1504) (by decide +kernel) rfl
theorem aw_1544 : Cond.code ⟨"WritebackModel", "written", "()I"⟩ prog_12_method_31_code 6 (some .int) ∈ AW := aw_t (i := 1544) (by decide +kernel) rfl
theorem aw_1541 : Cond.methodLink "WritebackModel" 255 ⟨"WritebackModel", "written", "()I"⟩ ∈ AW := aw_t (i := 1541) (by decide +kernel) rfl
theorem aw_1543 : Cond.instanceMethod ⟨"WritebackModel", "written", "()I"⟩ ∈ AW := aw_t (i := 1543) (by decide +kernel) rfl
theorem aw_p53 : Cond.selects "WritebackModel" ⟨"WritebackModel", "written", "()I"⟩ ⟨"WritebackModel", "written", "()I"⟩ ∈ AW := aw_s (i := 53) (by decide +kernel) rfl
theorem aw_1545 : Cond.constantLong "WritebackModel" 258 (9999 : Int64) ∈ AW := aw_t (i := 1545) (by decide +kernel) rfl
theorem aw_1507 : Cond.fieldLinkNest "WritebackModel" 260 "WritebackModel$Page" "isNew" "Z" "WritebackModel" ∈ OW := ow_t (i := 1507) (by decide +kernel) rfl
theorem aw_1505 : Cond.fieldLinkNest "WritebackModel" 263 "WritebackModel$Page" "valueBefore" "I" "WritebackModel" ∈ OW := ow_t (i := 1505) (by decide +kernel) rfl
theorem aw_1506 : Cond.fieldLinkNest "WritebackModel" 266 "WritebackModel$Page" "sinceBefore" "J" "WritebackModel" ∈ OW := ow_t (i := 1506) (by decide +kernel) rfl
theorem aw_1549 : Cond.code ⟨"WritebackModel", "dirty", "()I"⟩ prog_12_method_32_code 6 (some .int) ∈ AW := aw_t (i := 1549) (by decide +kernel) rfl
theorem aw_1546 : Cond.methodLink "WritebackModel" 269 ⟨"WritebackModel", "dirty", "()I"⟩ ∈ AW := aw_t (i := 1546) (by decide +kernel) rfl
theorem aw_1548 : Cond.instanceMethod ⟨"WritebackModel", "dirty", "()I"⟩ ∈ AW := aw_t (i := 1548) (by decide +kernel) rfl
theorem aw_p54 : Cond.selects "WritebackModel" ⟨"WritebackModel", "dirty", "()I"⟩ ⟨"WritebackModel", "dirty", "()I"⟩ ∈ AW := aw_s (i := 54) (by decide +kernel) rfl
theorem aw_1553 : Cond.code ⟨"WritebackModel", "longest", "()LWritebackModel$Page;"⟩ prog_12_method_34_code 7 (some (.object "WritebackModel$Page")) ∈ AW := aw_t (i := 1553) (by decide +kernel) rfl
theorem aw_1550 : Cond.methodLink "WritebackModel" 272 ⟨"WritebackModel", "longest", "()LWritebackModel$Page;"⟩ ∈ AW := aw_t (i := 1550) (by decide +kernel) rfl
theorem aw_1552 : Cond.instanceMethod ⟨"WritebackModel", "longest", "()LWritebackModel$Page;"⟩ ∈ AW := aw_t (i := 1552) (by decide +kernel) rfl
theorem aw_p55 : Cond.selects "WritebackModel" ⟨"WritebackModel", "longest", "()LWritebackModel$Page;"⟩ ⟨"WritebackModel", "longest", "()LWritebackModel$Page;"⟩ ∈ AW := aw_s (i := 55) (by decide +kernel) rfl
theorem aw_1181 : Cond.fieldLink "WritebackModel" 276 "WritebackModel" "waits" "I" ∈ AW := aw_t (i := 1181) (by decide +kernel) rfl
theorem aw_1561 : Cond.code ⟨"WritebackModel", "paged", "(II)LWritebackModel$Page;"⟩ prog_12_method_35_code 4 (some (.object "WritebackModel$Page")) ∈ AW := aw_t (i := 1561) (by decide +kernel) rfl
theorem aw_1558 : Cond.methodLink "WritebackModel" 279 ⟨"WritebackModel", "paged", "(II)LWritebackModel$Page;"⟩ ∈ AW := aw_t (i := 1558) (by decide +kernel) rfl
theorem aw_1560 : Cond.instanceMethod ⟨"WritebackModel", "paged", "(II)LWritebackModel$Page;"⟩ ∈ AW := aw_t (i := 1560) (by decide +kernel) rfl
theorem aw_p56 : Cond.selects "WritebackModel" ⟨"WritebackModel", "paged", "(II)LWritebackModel$Page;"⟩ ⟨"WritebackModel", "paged", "(II)LWritebackModel$Page;"⟩ ∈ AW := aw_s (i := 56) (by decide +kernel) rfl
theorem aw_1495 : Cond.fieldLinkNest "WritebackModel" 282 "WritebackModel$Page" "pins" "I" "WritebackModel" ∈ OW := ow_t (i := 1495) (by decide +kernel) rfl
theorem aw_1174 : Cond.fieldLink "WritebackModel" 285 "WritebackModel" "begun" "I" ∈ AW := aw_t (i := 1174) (by decide +kernel) rfl
theorem aw_1589 : Cond.code ⟨"WritebackModel", "logged", "()I"⟩ prog_12_method_42_code 6 (some .int) ∈ AW := aw_t (i := 1589) (by decide +kernel) rfl
theorem aw_1586 : Cond.methodLink "WritebackModel" 288 ⟨"WritebackModel", "logged", "()I"⟩ ∈ AW := aw_t (i := 1586) (by decide +kernel) rfl
theorem aw_1588 : Cond.instanceMethod ⟨"WritebackModel", "logged", "()I"⟩ ∈ AW := aw_t (i := 1588) (by decide +kernel) rfl
theorem aw_p57 : Cond.selects "WritebackModel" ⟨"WritebackModel", "logged", "()I"⟩ ⟨"WritebackModel", "logged", "()I"⟩ ∈ AW := aw_s (i := 57) (by decide +kernel) rfl
theorem aw_1593 : Cond.code ⟨"WritebackModel", "flushesAll", "(II)I"⟩ prog_12_method_46_code 6 (some .int) ∈ AW := aw_t (i := 1593) (by decide +kernel) rfl
theorem aw_1590 : Cond.methodLink "WritebackModel" 291 ⟨"WritebackModel", "flushesAll", "(II)I"⟩ ∈ AW := aw_t (i := 1590) (by decide +kernel) rfl
theorem aw_1592 : Cond.instanceMethod ⟨"WritebackModel", "flushesAll", "(II)I"⟩ ∈ AW := aw_t (i := 1592) (by decide +kernel) rfl
theorem aw_p58 : Cond.selects "WritebackModel" ⟨"WritebackModel", "flushesAll", "(II)I"⟩ ⟨"WritebackModel", "flushesAll", "(II)I"⟩ ∈ AW := aw_s (i := 58) (by decide +kernel) rfl
theorem aw_1610 : Cond.methodLink "WritebackModel" 294 ⟨"java/lang/Math", "min", "(II)I"⟩ ∈ AW := aw_t (i := 1610) (by decide +kernel) rfl
theorem aw_1619 : Cond.constantLong "WritebackModel" 297 (99 : Int64) ∈ AW := aw_t (i := 1619) (by decide +kernel) rfl
theorem aw_1644 : Cond.classLink "WritebackModel" 299 "WritebackModel$Image" ∈ AW := aw_t (i := 1644) (by decide +kernel) rfl
theorem aw_1645 : Cond.instantiable "WritebackModel$Image" 3 ∈ AW := aw_t (i := 1645) (by decide +kernel) rfl
theorem aw_35 : Cond.initialized "WritebackModel$Image" ∈ AW := aw_t (i := 35) (by decide +kernel) rfl
theorem aw_1646 : Cond.methodLink "WritebackModel" 301 ⟨"WritebackModel$Image", "<init>", "(I)V"⟩ ∈ AW := aw_t (i := 1646) (by decide +kernel) rfl
theorem aw_1648 : Cond.code ⟨"WritebackModel$Image", "<init>", "(I)V"⟩ prog_13_method_1_code 2 none ∈ AW := aw_t (i := 1648) (by decide +kernel) rfl
theorem aw_1647 : Cond.instanceMethod ⟨"WritebackModel$Image", "<init>", "(I)V"⟩ ∈ AW := aw_t (i := 1647) (by decide +kernel) rfl
theorem aw_1653 : Cond.fieldLinkNest "WritebackModel" 302 "WritebackModel$Image" "values" "[I" "WritebackModel" ∈ OW := ow_t (i := 1653) (by decide +kernel) rfl
theorem aw_1655 : Cond.fieldLinkNest "WritebackModel" 303 "WritebackModel$Image" "sums" "[I" "WritebackModel" ∈ OW := ow_t (i := 1655) (by decide +kernel) rfl
theorem aw_1651 : Cond.fieldLinkNest "WritebackModel" 304 "WritebackModel$Image" "device" "I" "WritebackModel" ∈ OW := ow_t (i := 1651) (by decide +kernel) rfl
theorem aw_1703 : Cond.constantLong "WritebackModel" 307 (63 : Int64) ∈ AW := aw_t (i := 1703) (by decide +kernel) rfl
theorem aw_1802 : Cond.code ⟨"WritebackModel", "nextOf", "(II)I"⟩ prog_12_method_68_code 4 (some .int) ∈ AW := aw_t (i := 1802) (by decide +kernel) rfl
theorem aw_1799 : Cond.methodLink "WritebackModel" 309 ⟨"WritebackModel", "nextOf", "(II)I"⟩ ∈ AW := aw_t (i := 1799) (by decide +kernel) rfl
theorem aw_1801 : Cond.instanceMethod ⟨"WritebackModel", "nextOf", "(II)I"⟩ ∈ AW := aw_t (i := 1801) (by decide +kernel) rfl
theorem aw_p60 : Cond.selects "WritebackModel" ⟨"WritebackModel", "nextOf", "(II)I"⟩ ⟨"WritebackModel", "nextOf", "(II)I"⟩ ∈ AW := aw_s (i := 60) (by decide +kernel) rfl
theorem aw_1798 : Cond.code ⟨"WritebackModel", "missed", "(CI)I"⟩ prog_12_method_69_code 15 (some .int) ∈ AW := aw_t (i := 1798) (by decide +kernel) rfl
theorem aw_1795 : Cond.methodLink "WritebackModel" 319 ⟨"WritebackModel", "missed", "(CI)I"⟩ ∈ AW := aw_t (i := 1795) (by decide +kernel) rfl
theorem aw_1797 : Cond.instanceMethod ⟨"WritebackModel", "missed", "(CI)I"⟩ ∈ AW := aw_t (i := 1797) (by decide +kernel) rfl
theorem aw_p59 : Cond.selects "WritebackModel" ⟨"WritebackModel", "missed", "(CI)I"⟩ ⟨"WritebackModel", "missed", "(CI)I"⟩ ∈ AW := aw_s (i := 59) (by decide +kernel) rfl
theorem aw_1807 : Cond.constantLong "WritebackModel" 323 (100 : Int64) ∈ AW := aw_t (i := 1807) (by decide +kernel) rfl
theorem aw_1834 : Cond.constantLong "WritebackModel" 331 (7 : Int64) ∈ AW := aw_t (i := 1834) (by decide +kernel) rfl
theorem aw_1835 : Cond.constantLong "WritebackModel" 333 (31 : Int64) ∈ AW := aw_t (i := 1835) (by decide +kernel) rfl
theorem aw_1151 : Cond.lays "java/util/ArrayList" "java/util/AbstractList" "modCount" "I" ∈ AW := aw_t (i := 1151) (by decide +kernel) rfl
theorem aw_1147 : Cond.lays "java/util/ArrayList" "java/util/ArrayList" "elementData" "[Ljava/lang/Object;" ∈ AW := aw_t (i := 1147) (by decide +kernel) rfl
theorem aw_1149 : Cond.lays "java/util/ArrayList" "java/util/ArrayList" "size" "I" ∈ AW := aw_t (i := 1149) (by decide +kernel) rfl
theorem aw_261 : Cond.lays "Writeback$Counts" "Writeback$Counts" "hits" "I" ∈ AW := aw_t (i := 261) (by decide +kernel) rfl
theorem aw_263 : Cond.lays "Writeback$Counts" "Writeback$Counts" "misses" "I" ∈ AW := aw_t (i := 263) (by decide +kernel) rfl
theorem aw_265 : Cond.lays "Writeback$Counts" "Writeback$Counts" "waits" "I" ∈ AW := aw_t (i := 265) (by decide +kernel) rfl
theorem aw_267 : Cond.lays "Writeback$Counts" "Writeback$Counts" "ahead" "I" ∈ AW := aw_t (i := 267) (by decide +kernel) rfl
theorem aw_269 : Cond.lays "Writeback$Counts" "Writeback$Counts" "useful" "I" ∈ AW := aw_t (i := 269) (by decide +kernel) rfl
theorem aw_66 : Cond.laysFinal "Writeback$Device" "Writeback$Device" "hasArm" "Z" ∈ AW := aw_t (i := 66) (by decide +kernel) rfl
theorem aw_68 : Cond.laysFinal "Writeback$Device" "Writeback$Device" "values" "[I" ∈ AW := aw_t (i := 68) (by decide +kernel) rfl
theorem aw_70 : Cond.laysFinal "Writeback$Device" "Writeback$Device" "sums" "[I" ∈ AW := aw_t (i := 70) (by decide +kernel) rfl
theorem aw_72 : Cond.laysFinal "Writeback$Device" "Writeback$Device" "wear" "[I" ∈ AW := aw_t (i := 72) (by decide +kernel) rfl
theorem aw_74 : Cond.lays "Writeback$Device" "Writeback$Device" "arm" "I" ∈ AW := aw_t (i := 74) (by decide +kernel) rfl
theorem aw_76 : Cond.lays "Writeback$Device" "Writeback$Device" "files" "I" ∈ AW := aw_t (i := 76) (by decide +kernel) rfl
theorem aw_92 : Cond.laysFinal "Writeback$Files" "Writeback$Files" "homes" "[I" ∈ AW := aw_t (i := 92) (by decide +kernel) rfl
theorem aw_94 : Cond.laysFinal "Writeback$Files" "Writeback$Files" "lastRead" "[I" ∈ AW := aw_t (i := 94) (by decide +kernel) rfl
theorem aw_96 : Cond.lays "Writeback$Files" "Writeback$Files" "count" "I" ∈ AW := aw_t (i := 96) (by decide +kernel) rfl
theorem aw_139 : Cond.lays "Writeback$Frame" "Writeback$Frame" "spot" "I" ∈ AW := aw_t (i := 139) (by decide +kernel) rfl
theorem aw_141 : Cond.lays "Writeback$Frame" "Writeback$Frame" "value" "I" ∈ AW := aw_t (i := 141) (by decide +kernel) rfl
theorem aw_143 : Cond.lays "Writeback$Frame" "Writeback$Frame" "pins" "I" ∈ AW := aw_t (i := 143) (by decide +kernel) rfl
theorem aw_145 : Cond.lays "Writeback$Frame" "Writeback$Frame" "dirty" "Z" ∈ AW := aw_t (i := 145) (by decide +kernel) rfl
theorem aw_147 : Cond.lays "Writeback$Frame" "Writeback$Frame" "since" "I" ∈ AW := aw_t (i := 147) (by decide +kernel) rfl
theorem aw_149 : Cond.lays "Writeback$Frame" "Writeback$Frame" "used" "I" ∈ AW := aw_t (i := 149) (by decide +kernel) rfl
theorem aw_151 : Cond.lays "Writeback$Frame" "Writeback$Frame" "came" "I" ∈ AW := aw_t (i := 151) (by decide +kernel) rfl
theorem aw_153 : Cond.lays "Writeback$Frame" "Writeback$Frame" "usedSinceHand" "Z" ∈ AW := aw_t (i := 153) (by decide +kernel) rfl
theorem aw_155 : Cond.lays "Writeback$Frame" "Writeback$Frame" "ahead" "Z" ∈ AW := aw_t (i := 155) (by decide +kernel) rfl
theorem aw_157 : Cond.lays "Writeback$Frame" "Writeback$Frame" "ofWork" "Z" ∈ AW := aw_t (i := 157) (by decide +kernel) rfl
theorem aw_159 : Cond.lays "Writeback$Frame" "Writeback$Frame" "fresh" "Z" ∈ AW := aw_t (i := 159) (by decide +kernel) rfl
theorem aw_161 : Cond.lays "Writeback$Frame" "Writeback$Frame" "oldValue" "I" ∈ AW := aw_t (i := 161) (by decide +kernel) rfl
theorem aw_163 : Cond.lays "Writeback$Frame" "Writeback$Frame" "oldDirty" "Z" ∈ AW := aw_t (i := 163) (by decide +kernel) rfl
theorem aw_1015 : Cond.laysFinal "Writeback$Image" "Writeback$Image" "device" "I" ∈ AW := aw_t (i := 1015) (by decide +kernel) rfl
theorem aw_1017 : Cond.laysFinal "Writeback$Image" "Writeback$Image" "values" "[I" ∈ AW := aw_t (i := 1017) (by decide +kernel) rfl
theorem aw_1019 : Cond.laysFinal "Writeback$Image" "Writeback$Image" "sums" "[I" ∈ AW := aw_t (i := 1019) (by decide +kernel) rfl
theorem aw_195 : Cond.laysFinal "Writeback$Log" "Writeback$Log" "has" "[Z" ∈ AW := aw_t (i := 195) (by decide +kernel) rfl
theorem aw_197 : Cond.laysFinal "Writeback$Log" "Writeback$Log" "values" "[I" ∈ AW := aw_t (i := 197) (by decide +kernel) rfl
theorem aw_199 : Cond.lays "Writeback$Log" "Writeback$Log" "size" "I" ∈ AW := aw_t (i := 199) (by decide +kernel) rfl
theorem aw_174 : Cond.laysFinal "Writeback$Pool" "Writeback$Pool" "frames" "[LWriteback$Frame;" ∈ AW := aw_t (i := 174) (by decide +kernel) rfl
theorem aw_176 : Cond.lays "Writeback$Pool" "Writeback$Pool" "size" "I" ∈ AW := aw_t (i := 176) (by decide +kernel) rfl
theorem aw_178 : Cond.lays "Writeback$Pool" "Writeback$Pool" "hand" "I" ∈ AW := aw_t (i := 178) (by decide +kernel) rfl
theorem aw_180 : Cond.lays "Writeback$Pool" "Writeback$Pool" "time" "I" ∈ AW := aw_t (i := 180) (by decide +kernel) rfl
theorem aw_235 : Cond.laysFinal "Writeback$Trace" "Writeback$Trace" "pages" "[I" ∈ AW := aw_t (i := 235) (by decide +kernel) rfl
theorem aw_237 : Cond.lays "Writeback$Trace" "Writeback$Trace" "length" "I" ∈ AW := aw_t (i := 237) (by decide +kernel) rfl
theorem aw_239 : Cond.laysFinal "Writeback$Trace" "Writeback$Trace" "following" "[I" ∈ AW := aw_t (i := 239) (by decide +kernel) rfl
theorem aw_241 : Cond.laysFinal "Writeback$Trace" "Writeback$Trace" "seen" "[I" ∈ AW := aw_t (i := 241) (by decide +kernel) rfl
theorem aw_243 : Cond.laysFinal "Writeback$Trace" "Writeback$Trace" "nexts" "[I" ∈ AW := aw_t (i := 243) (by decide +kernel) rfl
theorem aw_245 : Cond.laysFinal "Writeback$Trace" "Writeback$Trace" "pool" "LWriteback$Pool;" ∈ AW := aw_t (i := 245) (by decide +kernel) rfl
theorem aw_214 : Cond.lays "Writeback$Work" "Writeback$Work" "going" "Z" ∈ AW := aw_t (i := 214) (by decide +kernel) rfl
theorem aw_216 : Cond.lays "Writeback$Work" "Writeback$Work" "begun" "I" ∈ AW := aw_t (i := 216) (by decide +kernel) rfl
theorem aw_218 : Cond.lays "Writeback$Work" "Writeback$Work" "written" "I" ∈ AW := aw_t (i := 218) (by decide +kernel) rfl
theorem aw_290 : Cond.laysFinal "Writeback" "Writeback" "devices" "[LWriteback$Device;" ∈ AW := aw_t (i := 290) (by decide +kernel) rfl
theorem aw_292 : Cond.laysFinal "Writeback" "Writeback" "files" "LWriteback$Files;" ∈ AW := aw_t (i := 292) (by decide +kernel) rfl
theorem aw_294 : Cond.laysFinal "Writeback" "Writeback" "pool" "LWriteback$Pool;" ∈ AW := aw_t (i := 294) (by decide +kernel) rfl
theorem aw_296 : Cond.laysFinal "Writeback" "Writeback" "log" "LWriteback$Log;" ∈ AW := aw_t (i := 296) (by decide +kernel) rfl
theorem aw_298 : Cond.laysFinal "Writeback" "Writeback" "work" "LWriteback$Work;" ∈ AW := aw_t (i := 298) (by decide +kernel) rfl
theorem aw_300 : Cond.laysFinal "Writeback" "Writeback" "trace" "LWriteback$Trace;" ∈ AW := aw_t (i := 300) (by decide +kernel) rfl
theorem aw_302 : Cond.laysFinal "Writeback" "Writeback" "counts" "LWriteback$Counts;" ∈ AW := aw_t (i := 302) (by decide +kernel) rfl
theorem aw_304 : Cond.laysFinal "Writeback" "Writeback" "images" "[LWriteback$Image;" ∈ AW := aw_t (i := 304) (by decide +kernel) rfl
theorem aw_306 : Cond.lays "Writeback" "Writeback" "imagesKept" "I" ∈ AW := aw_t (i := 306) (by decide +kernel) rfl
theorem aw_308 : Cond.laysFinal "Writeback" "Writeback" "bills" "[J" ∈ AW := aw_t (i := 308) (by decide +kernel) rfl
theorem aw_310 : Cond.lays "Writeback" "Writeback" "policy" "C" ∈ AW := aw_t (i := 310) (by decide +kernel) rfl
theorem aw_312 : Cond.lays "Writeback" "Writeback" "limit" "I" ∈ AW := aw_t (i := 312) (by decide +kernel) rfl
theorem aw_314 : Cond.lays "Writeback" "Writeback" "window" "I" ∈ AW := aw_t (i := 314) (by decide +kernel) rfl
theorem aw_316 : Cond.lays "Writeback" "Writeback" "tenant" "I" ∈ AW := aw_t (i := 316) (by decide +kernel) rfl
theorem aw_318 : Cond.lays "Writeback" "Writeback" "powered" "Z" ∈ AW := aw_t (i := 318) (by decide +kernel) rfl
theorem aw_320 : Cond.lays "Writeback" "Writeback" "writesLeft" "I" ∈ AW := aw_t (i := 320) (by decide +kernel) rfl
theorem aw_1656 : Cond.laysFinal "WritebackModel$Image" "WritebackModel$Image" "device" "I" ∈ AW := aw_t (i := 1656) (by decide +kernel) rfl
theorem aw_1658 : Cond.laysFinal "WritebackModel$Image" "WritebackModel$Image" "values" "[I" ∈ AW := aw_t (i := 1658) (by decide +kernel) rfl
theorem aw_1660 : Cond.laysFinal "WritebackModel$Image" "WritebackModel$Image" "sums" "[I" ∈ AW := aw_t (i := 1660) (by decide +kernel) rfl
theorem aw_1508 : Cond.laysFinal "WritebackModel$Page" "WritebackModel$Page" "place" "I" ∈ AW := aw_t (i := 1508) (by decide +kernel) rfl
theorem aw_1510 : Cond.lays "WritebackModel$Page" "WritebackModel$Page" "value" "I" ∈ AW := aw_t (i := 1510) (by decide +kernel) rfl
theorem aw_1512 : Cond.lays "WritebackModel$Page" "WritebackModel$Page" "pins" "I" ∈ AW := aw_t (i := 1512) (by decide +kernel) rfl
theorem aw_1514 : Cond.lays "WritebackModel$Page" "WritebackModel$Page" "since" "J" ∈ AW := aw_t (i := 1514) (by decide +kernel) rfl
theorem aw_1516 : Cond.lays "WritebackModel$Page" "WritebackModel$Page" "used" "J" ∈ AW := aw_t (i := 1516) (by decide +kernel) rfl
theorem aw_1518 : Cond.lays "WritebackModel$Page" "WritebackModel$Page" "came" "J" ∈ AW := aw_t (i := 1518) (by decide +kernel) rfl
theorem aw_1520 : Cond.lays "WritebackModel$Page" "WritebackModel$Page" "isMarked" "Z" ∈ AW := aw_t (i := 1520) (by decide +kernel) rfl
theorem aw_1522 : Cond.lays "WritebackModel$Page" "WritebackModel$Page" "isAhead" "Z" ∈ AW := aw_t (i := 1522) (by decide +kernel) rfl
theorem aw_1524 : Cond.lays "WritebackModel$Page" "WritebackModel$Page" "isOurs" "Z" ∈ AW := aw_t (i := 1524) (by decide +kernel) rfl
theorem aw_1526 : Cond.lays "WritebackModel$Page" "WritebackModel$Page" "valueBefore" "I" ∈ AW := aw_t (i := 1526) (by decide +kernel) rfl
theorem aw_1528 : Cond.lays "WritebackModel$Page" "WritebackModel$Page" "sinceBefore" "J" ∈ AW := aw_t (i := 1528) (by decide +kernel) rfl
theorem aw_1530 : Cond.lays "WritebackModel$Page" "WritebackModel$Page" "isNew" "Z" ∈ AW := aw_t (i := 1530) (by decide +kernel) rfl
theorem aw_1185 : Cond.lays "WritebackModel" "WritebackModel" "thrown" "I" ∈ AW := aw_t (i := 1185) (by decide +kernel) rfl
theorem aw_1187 : Cond.laysFinal "WritebackModel" "WritebackModel" "values" "[I" ∈ AW := aw_t (i := 1187) (by decide +kernel) rfl
theorem aw_1189 : Cond.laysFinal "WritebackModel" "WritebackModel" "sums" "[I" ∈ AW := aw_t (i := 1189) (by decide +kernel) rfl
theorem aw_1191 : Cond.laysFinal "WritebackModel" "WritebackModel" "wear" "[I" ∈ AW := aw_t (i := 1191) (by decide +kernel) rfl
theorem aw_1193 : Cond.laysFinal "WritebackModel" "WritebackModel" "files" "Ljava/util/ArrayList;" ∈ AW := aw_t (i := 1193) (by decide +kernel) rfl
theorem aw_1195 : Cond.laysFinal "WritebackModel" "WritebackModel" "lastRead" "[I" ∈ AW := aw_t (i := 1195) (by decide +kernel) rfl
theorem aw_1197 : Cond.laysFinal "WritebackModel" "WritebackModel" "onDevice" "[I" ∈ AW := aw_t (i := 1197) (by decide +kernel) rfl
theorem aw_1199 : Cond.laysFinal "WritebackModel" "WritebackModel" "pages" "[LWritebackModel$Page;" ∈ AW := aw_t (i := 1199) (by decide +kernel) rfl
theorem aw_1201 : Cond.lays "WritebackModel" "WritebackModel" "frames" "I" ∈ AW := aw_t (i := 1201) (by decide +kernel) rfl
theorem aw_1203 : Cond.lays "WritebackModel" "WritebackModel" "policy" "C" ∈ AW := aw_t (i := 1203) (by decide +kernel) rfl
theorem aw_1205 : Cond.lays "WritebackModel" "WritebackModel" "limit" "I" ∈ AW := aw_t (i := 1205) (by decide +kernel) rfl
theorem aw_1207 : Cond.lays "WritebackModel" "WritebackModel" "window" "I" ∈ AW := aw_t (i := 1207) (by decide +kernel) rfl
theorem aw_1209 : Cond.lays "WritebackModel" "WritebackModel" "tenant" "I" ∈ AW := aw_t (i := 1209) (by decide +kernel) rfl
theorem aw_1211 : Cond.lays "WritebackModel" "WritebackModel" "hand" "I" ∈ AW := aw_t (i := 1211) (by decide +kernel) rfl
theorem aw_1213 : Cond.lays "WritebackModel" "WritebackModel" "arm" "I" ∈ AW := aw_t (i := 1213) (by decide +kernel) rfl
theorem aw_1215 : Cond.laysFinal "WritebackModel" "WritebackModel" "bills" "[J" ∈ AW := aw_t (i := 1215) (by decide +kernel) rfl
theorem aw_1217 : Cond.laysFinal "WritebackModel" "WritebackModel" "log" "[I" ∈ AW := aw_t (i := 1217) (by decide +kernel) rfl
theorem aw_1219 : Cond.lays "WritebackModel" "WritebackModel" "goesOn" "Z" ∈ AW := aw_t (i := 1219) (by decide +kernel) rfl
theorem aw_1221 : Cond.lays "WritebackModel" "WritebackModel" "begun" "I" ∈ AW := aw_t (i := 1221) (by decide +kernel) rfl
theorem aw_1223 : Cond.lays "WritebackModel" "WritebackModel" "hasPower" "Z" ∈ AW := aw_t (i := 1223) (by decide +kernel) rfl
theorem aw_1225 : Cond.lays "WritebackModel" "WritebackModel" "toFail" "I" ∈ AW := aw_t (i := 1225) (by decide +kernel) rfl
theorem aw_1227 : Cond.laysFinal "WritebackModel" "WritebackModel" "images" "Ljava/util/ArrayList;" ∈ AW := aw_t (i := 1227) (by decide +kernel) rfl
theorem aw_1229 : Cond.laysFinal "WritebackModel" "WritebackModel" "trace" "Ljava/util/ArrayList;" ∈ AW := aw_t (i := 1229) (by decide +kernel) rfl
theorem aw_1231 : Cond.lays "WritebackModel" "WritebackModel" "hits" "I" ∈ AW := aw_t (i := 1231) (by decide +kernel) rfl
theorem aw_1233 : Cond.lays "WritebackModel" "WritebackModel" "misses" "I" ∈ AW := aw_t (i := 1233) (by decide +kernel) rfl
theorem aw_1235 : Cond.lays "WritebackModel" "WritebackModel" "waits" "I" ∈ AW := aw_t (i := 1235) (by decide +kernel) rfl
theorem aw_1237 : Cond.lays "WritebackModel" "WritebackModel" "ahead" "I" ∈ AW := aw_t (i := 1237) (by decide +kernel) rfl
theorem aw_1239 : Cond.lays "WritebackModel" "WritebackModel" "useful" "I" ∈ AW := aw_t (i := 1239) (by decide +kernel) rfl
theorem aw_1241 : Cond.lays "WritebackModel" "WritebackModel" "clock" "J" ∈ AW := aw_t (i := 1241) (by decide +kernel) rfl
theorem sw_590 : Cond.stringRef "Writeback" 407 "no such device" ∈ lw_tbl := List.mem_append_right _ (List.mem_of_getElem? (i := 590) (by decide +kernel))
theorem sw_603 : Cond.stringRef "Writeback" 93 "the device has all its files" ∈ lw_tbl := List.mem_append_right _ (List.mem_of_getElem? (i := 603) (by decide +kernel))
theorem sw_635 : Cond.stringRef "Writeback" 394 "a number is out of range" ∈ lw_tbl := List.mem_append_right _ (List.mem_of_getElem? (i := 635) (by decide +kernel))
theorem sw_655 : Cond.stringRef "Writeback" 396 "there is no power" ∈ lw_tbl := List.mem_append_right _ (List.mem_of_getElem? (i := 655) (by decide +kernel))
theorem sw_666 : Cond.stringRef "Writeback" 113 "a page behind the frames is pinned or of the transaction" ∈ lw_tbl := List.mem_append_right _ (List.mem_of_getElem? (i := 666) (by decide +kernel))
theorem sw_721 : Cond.stringRef "Writeback" 135 "no such policy" ∈ lw_tbl := List.mem_append_right _ (List.mem_of_getElem? (i := 721) (by decide +kernel))
theorem sw_754 : Cond.stringRef "Writeback" 412 "no such file or block" ∈ lw_tbl := List.mem_append_right _ (List.mem_of_getElem? (i := 754) (by decide +kernel))
theorem sw_761 : Cond.stringRef "Writeback" 158 "no page can be evicted, or the block is damaged" ∈ lw_tbl := List.mem_append_right _ (List.mem_of_getElem? (i := 761) (by decide +kernel))
theorem sw_808 : Cond.stringRef "Writeback" 189 "no page can be evicted, or the transaction has written enough blocks" ∈ lw_tbl := List.mem_append_right _ (List.mem_of_getElem? (i := 808) (by decide +kernel))
theorem sw_889 : Cond.stringRef "Writeback" 221 "a transaction goes on" ∈ lw_tbl := List.mem_append_right _ (List.mem_of_getElem? (i := 889) (by decide +kernel))
theorem sw_901 : Cond.stringRef "Writeback" 398 "there is no transaction" ∈ lw_tbl := List.mem_append_right _ (List.mem_of_getElem? (i := 901) (by decide +kernel))
theorem sw_968 : Cond.stringRef "Writeback" 279 "there is power" ∈ lw_tbl := List.mem_append_right _ (List.mem_of_getElem? (i := 968) (by decide +kernel))
theorem sw_976 : Cond.stringRef "Writeback" 294 "the block has that value" ∈ lw_tbl := List.mem_append_right _ (List.mem_of_getElem? (i := 976) (by decide +kernel))
theorem sw_996 : Cond.stringRef "Writeback" 303 "all images are kept" ∈ lw_tbl := List.mem_append_right _ (List.mem_of_getElem? (i := 996) (by decide +kernel))
theorem sw_1033 : Cond.stringRef "Writeback" 410 "no such image" ∈ lw_tbl := List.mem_append_right _ (List.mem_of_getElem? (i := 1033) (by decide +kernel))
theorem sw_1034 : Cond.stringRef "Writeback" 323 "the image is of another sort, or a transaction goes on" ∈ lw_tbl := List.mem_append_right _ (List.mem_of_getElem? (i := 1034) (by decide +kernel))
theorem sw_1098 : Cond.stringRef "Writeback" 402 "there were no accesses" ∈ lw_tbl := List.mem_append_right _ (List.mem_of_getElem? (i := 1098) (by decide +kernel))
theorem hinJx4a65c : ∀ w ∈ u_ws RJx4a65c TJx4a65c 3, w ∈ AW := by
  intro w hw
  obtain ⟨k, hk, rfl⟩ := List.mem_map.mp hw
  rw [List.mem_range] at hk
  exact (lt_s (p := fun k => u_lay RJx4a65c TJx4a65c k ∈ AW) (lt_s (p := fun k => u_lay RJx4a65c TJx4a65c k ∈ AW) (lt_s (p := fun k => u_lay RJx4a65c TJx4a65c k ∈ AW) lt_0 aw_1151) aw_1147) aw_1149) k hk
theorem hinX0 : ∀ w ∈ u_ws RX0 TX0 5, w ∈ AW := by
  intro w hw
  obtain ⟨k, hk, rfl⟩ := List.mem_map.mp hw
  rw [List.mem_range] at hk
  exact (lt_s (p := fun k => u_lay RX0 TX0 k ∈ AW) (lt_s (p := fun k => u_lay RX0 TX0 k ∈ AW) (lt_s (p := fun k => u_lay RX0 TX0 k ∈ AW) (lt_s (p := fun k => u_lay RX0 TX0 k ∈ AW) (lt_s (p := fun k => u_lay RX0 TX0 k ∈ AW) lt_0 aw_261) aw_263) aw_265) aw_267) aw_269) k hk
theorem hinX1 : ∀ w ∈ u_ws RX1 TX1 6, w ∈ AW := by
  intro w hw
  obtain ⟨k, hk, rfl⟩ := List.mem_map.mp hw
  rw [List.mem_range] at hk
  exact (lt_s (p := fun k => u_lay RX1 TX1 k ∈ AW) (lt_s (p := fun k => u_lay RX1 TX1 k ∈ AW) (lt_s (p := fun k => u_lay RX1 TX1 k ∈ AW) (lt_s (p := fun k => u_lay RX1 TX1 k ∈ AW) (lt_s (p := fun k => u_lay RX1 TX1 k ∈ AW) (lt_s (p := fun k => u_lay RX1 TX1 k ∈ AW) lt_0 aw_66) aw_68) aw_70) aw_72) aw_74) aw_76) k hk
theorem hinX2 : ∀ w ∈ u_ws RX2 TX2 3, w ∈ AW := by
  intro w hw
  obtain ⟨k, hk, rfl⟩ := List.mem_map.mp hw
  rw [List.mem_range] at hk
  exact (lt_s (p := fun k => u_lay RX2 TX2 k ∈ AW) (lt_s (p := fun k => u_lay RX2 TX2 k ∈ AW) (lt_s (p := fun k => u_lay RX2 TX2 k ∈ AW) lt_0 aw_92) aw_94) aw_96) k hk
theorem hinX3 : ∀ w ∈ u_ws RX3 TX3 13, w ∈ AW := by
  intro w hw
  obtain ⟨k, hk, rfl⟩ := List.mem_map.mp hw
  rw [List.mem_range] at hk
  exact (lt_s (p := fun k => u_lay RX3 TX3 k ∈ AW) (lt_s (p := fun k => u_lay RX3 TX3 k ∈ AW) (lt_s (p := fun k => u_lay RX3 TX3 k ∈ AW) (lt_s (p := fun k => u_lay RX3 TX3 k ∈ AW) (lt_s (p := fun k => u_lay RX3 TX3 k ∈ AW) (lt_s (p := fun k => u_lay RX3 TX3 k ∈ AW) (lt_s (p := fun k => u_lay RX3 TX3 k ∈ AW) (lt_s (p := fun k => u_lay RX3 TX3 k ∈ AW) (lt_s (p := fun k => u_lay RX3 TX3 k ∈ AW) (lt_s (p := fun k => u_lay RX3 TX3 k ∈ AW) (lt_s (p := fun k => u_lay RX3 TX3 k ∈ AW) (lt_s (p := fun k => u_lay RX3 TX3 k ∈ AW) (lt_s (p := fun k => u_lay RX3 TX3 k ∈ AW) lt_0 aw_139) aw_141) aw_143) aw_145) aw_147) aw_149) aw_151) aw_153) aw_155) aw_157) aw_159) aw_161) aw_163) k hk
theorem hinX4 : ∀ w ∈ u_ws RX4 TX4 3, w ∈ AW := by
  intro w hw
  obtain ⟨k, hk, rfl⟩ := List.mem_map.mp hw
  rw [List.mem_range] at hk
  exact (lt_s (p := fun k => u_lay RX4 TX4 k ∈ AW) (lt_s (p := fun k => u_lay RX4 TX4 k ∈ AW) (lt_s (p := fun k => u_lay RX4 TX4 k ∈ AW) lt_0 aw_1015) aw_1017) aw_1019) k hk
theorem hinX5 : ∀ w ∈ u_ws RX5 TX5 3, w ∈ AW := by
  intro w hw
  obtain ⟨k, hk, rfl⟩ := List.mem_map.mp hw
  rw [List.mem_range] at hk
  exact (lt_s (p := fun k => u_lay RX5 TX5 k ∈ AW) (lt_s (p := fun k => u_lay RX5 TX5 k ∈ AW) (lt_s (p := fun k => u_lay RX5 TX5 k ∈ AW) lt_0 aw_195) aw_197) aw_199) k hk
theorem hinX6 : ∀ w ∈ u_ws RX6 TX6 4, w ∈ AW := by
  intro w hw
  obtain ⟨k, hk, rfl⟩ := List.mem_map.mp hw
  rw [List.mem_range] at hk
  exact (lt_s (p := fun k => u_lay RX6 TX6 k ∈ AW) (lt_s (p := fun k => u_lay RX6 TX6 k ∈ AW) (lt_s (p := fun k => u_lay RX6 TX6 k ∈ AW) (lt_s (p := fun k => u_lay RX6 TX6 k ∈ AW) lt_0 aw_174) aw_176) aw_178) aw_180) k hk
theorem hinX7 : ∀ w ∈ u_ws RX7 TX7 6, w ∈ AW := by
  intro w hw
  obtain ⟨k, hk, rfl⟩ := List.mem_map.mp hw
  rw [List.mem_range] at hk
  exact (lt_s (p := fun k => u_lay RX7 TX7 k ∈ AW) (lt_s (p := fun k => u_lay RX7 TX7 k ∈ AW) (lt_s (p := fun k => u_lay RX7 TX7 k ∈ AW) (lt_s (p := fun k => u_lay RX7 TX7 k ∈ AW) (lt_s (p := fun k => u_lay RX7 TX7 k ∈ AW) (lt_s (p := fun k => u_lay RX7 TX7 k ∈ AW) lt_0 aw_235) aw_237) aw_239) aw_241) aw_243) aw_245) k hk
theorem hinX8 : ∀ w ∈ u_ws RX8 TX8 3, w ∈ AW := by
  intro w hw
  obtain ⟨k, hk, rfl⟩ := List.mem_map.mp hw
  rw [List.mem_range] at hk
  exact (lt_s (p := fun k => u_lay RX8 TX8 k ∈ AW) (lt_s (p := fun k => u_lay RX8 TX8 k ∈ AW) (lt_s (p := fun k => u_lay RX8 TX8 k ∈ AW) lt_0 aw_214) aw_216) aw_218) k hk
theorem hinX9 : ∀ w ∈ u_ws RX9 TX9 16, w ∈ AW := by
  intro w hw
  obtain ⟨k, hk, rfl⟩ := List.mem_map.mp hw
  rw [List.mem_range] at hk
  exact (lt_s (p := fun k => u_lay RX9 TX9 k ∈ AW) (lt_s (p := fun k => u_lay RX9 TX9 k ∈ AW) (lt_s (p := fun k => u_lay RX9 TX9 k ∈ AW) (lt_s (p := fun k => u_lay RX9 TX9 k ∈ AW) (lt_s (p := fun k => u_lay RX9 TX9 k ∈ AW) (lt_s (p := fun k => u_lay RX9 TX9 k ∈ AW) (lt_s (p := fun k => u_lay RX9 TX9 k ∈ AW) (lt_s (p := fun k => u_lay RX9 TX9 k ∈ AW) (lt_s (p := fun k => u_lay RX9 TX9 k ∈ AW) (lt_s (p := fun k => u_lay RX9 TX9 k ∈ AW) (lt_s (p := fun k => u_lay RX9 TX9 k ∈ AW) (lt_s (p := fun k => u_lay RX9 TX9 k ∈ AW) (lt_s (p := fun k => u_lay RX9 TX9 k ∈ AW) (lt_s (p := fun k => u_lay RX9 TX9 k ∈ AW) (lt_s (p := fun k => u_lay RX9 TX9 k ∈ AW) (lt_s (p := fun k => u_lay RX9 TX9 k ∈ AW) lt_0 aw_290) aw_292) aw_294) aw_296) aw_298) aw_300) aw_302) aw_304) aw_306) aw_308) aw_310) aw_312) aw_314) aw_316) aw_318) aw_320) k hk
theorem hinX10 : ∀ w ∈ u_ws RX10 TX10 3, w ∈ AW := by
  intro w hw
  obtain ⟨k, hk, rfl⟩ := List.mem_map.mp hw
  rw [List.mem_range] at hk
  exact (lt_s (p := fun k => u_lay RX10 TX10 k ∈ AW) (lt_s (p := fun k => u_lay RX10 TX10 k ∈ AW) (lt_s (p := fun k => u_lay RX10 TX10 k ∈ AW) lt_0 aw_1656) aw_1658) aw_1660) k hk
theorem hinX11 : ∀ w ∈ u_ws RX11 TX11 12, w ∈ AW := by
  intro w hw
  obtain ⟨k, hk, rfl⟩ := List.mem_map.mp hw
  rw [List.mem_range] at hk
  exact (lt_s (p := fun k => u_lay RX11 TX11 k ∈ AW) (lt_s (p := fun k => u_lay RX11 TX11 k ∈ AW) (lt_s (p := fun k => u_lay RX11 TX11 k ∈ AW) (lt_s (p := fun k => u_lay RX11 TX11 k ∈ AW) (lt_s (p := fun k => u_lay RX11 TX11 k ∈ AW) (lt_s (p := fun k => u_lay RX11 TX11 k ∈ AW) (lt_s (p := fun k => u_lay RX11 TX11 k ∈ AW) (lt_s (p := fun k => u_lay RX11 TX11 k ∈ AW) (lt_s (p := fun k => u_lay RX11 TX11 k ∈ AW) (lt_s (p := fun k => u_lay RX11 TX11 k ∈ AW) (lt_s (p := fun k => u_lay RX11 TX11 k ∈ AW) (lt_s (p := fun k => u_lay RX11 TX11 k ∈ AW) lt_0 aw_1508) aw_1510) aw_1512) aw_1514) aw_1516) aw_1518) aw_1520) aw_1522) aw_1524) aw_1526) aw_1528) aw_1530) k hk
theorem hinX12 : ∀ w ∈ u_ws RX12 TX12 29, w ∈ AW := by
  intro w hw
  obtain ⟨k, hk, rfl⟩ := List.mem_map.mp hw
  rw [List.mem_range] at hk
  exact (lt_s (p := fun k => u_lay RX12 TX12 k ∈ AW) (lt_s (p := fun k => u_lay RX12 TX12 k ∈ AW) (lt_s (p := fun k => u_lay RX12 TX12 k ∈ AW) (lt_s (p := fun k => u_lay RX12 TX12 k ∈ AW) (lt_s (p := fun k => u_lay RX12 TX12 k ∈ AW) (lt_s (p := fun k => u_lay RX12 TX12 k ∈ AW) (lt_s (p := fun k => u_lay RX12 TX12 k ∈ AW) (lt_s (p := fun k => u_lay RX12 TX12 k ∈ AW) (lt_s (p := fun k => u_lay RX12 TX12 k ∈ AW) (lt_s (p := fun k => u_lay RX12 TX12 k ∈ AW) (lt_s (p := fun k => u_lay RX12 TX12 k ∈ AW) (lt_s (p := fun k => u_lay RX12 TX12 k ∈ AW) (lt_s (p := fun k => u_lay RX12 TX12 k ∈ AW) (lt_s (p := fun k => u_lay RX12 TX12 k ∈ AW) (lt_s (p := fun k => u_lay RX12 TX12 k ∈ AW) (lt_s (p := fun k => u_lay RX12 TX12 k ∈ AW) (lt_s (p := fun k => u_lay RX12 TX12 k ∈ AW) (lt_s (p := fun k => u_lay RX12 TX12 k ∈ AW) (lt_s (p := fun k => u_lay RX12 TX12 k ∈ AW) (lt_s (p := fun k => u_lay RX12 TX12 k ∈ AW) (lt_s (p := fun k => u_lay RX12 TX12 k ∈ AW) (lt_s (p := fun k => u_lay RX12 TX12 k ∈ AW) (lt_s (p := fun k => u_lay RX12 TX12 k ∈ AW) (lt_s (p := fun k => u_lay RX12 TX12 k ∈ AW) (lt_s (p := fun k => u_lay RX12 TX12 k ∈ AW) (lt_s (p := fun k => u_lay RX12 TX12 k ∈ AW) (lt_s (p := fun k => u_lay RX12 TX12 k ∈ AW) (lt_s (p := fun k => u_lay RX12 TX12 k ∈ AW) (lt_s (p := fun k => u_lay RX12 TX12 k ∈ AW) lt_0 aw_1185) aw_1187) aw_1189) aw_1191) aw_1193) aw_1195) aw_1197) aw_1199) aw_1201) aw_1203) aw_1205) aw_1207) aw_1209) aw_1211) aw_1213) aw_1215) aw_1217) aw_1219) aw_1221) aw_1223) aw_1225) aw_1227) aw_1229) aw_1231) aw_1233) aw_1235) aw_1237) aw_1239) aw_1241) k hk
theorem thr_X9_409 : ∀ w ∈ Cond.classLink RX9 405 "java/lang/IndexOutOfBoundsException" :: Cond.initialized "java/lang/IndexOutOfBoundsException" :: vx_atS RX9 409 "java/lang/IndexOutOfBoundsException" ["java/lang/RuntimeException", "java/lang/Exception"], w ∈ AW ∨ w ∈ OW := in_tbl [642, 78, 75, 624, 575, 584, 587, 589, 625, 626, 108, 109, 569, 574, 585, 592, 618, 593, 619, 594, 620, 570, 572, 621, 567, 568, 591, 621, 558, 559, 560, 561, 612, 561, 562, 563, 564, 614, 564, 565, 566, 567, 616, 652, 643, 644, 645, 581, 646, 647, 648, 649, 590, 622, 650] (by decide +kernel) (by decide +kernel)
theorem thr_X9_95 : ∀ w ∈ Cond.classLink RX9 91 "java/lang/IllegalStateException" :: Cond.initialized "java/lang/IllegalStateException" :: vx_atS RX9 95 "java/lang/IllegalStateException" ["java/lang/RuntimeException", "java/lang/Exception"], w ∈ AW ∨ w ∈ OW := in_tbl [655, 81, 75, 624, 575, 584, 587, 589, 625, 626, 108, 109, 569, 574, 585, 592, 618, 593, 619, 594, 620, 570, 572, 621, 567, 568, 591, 621, 666, 667, 668, 561, 612, 561, 562, 563, 564, 614, 564, 565, 566, 567, 616, 665, 656, 657, 658, 580, 659, 660, 661, 662, 590, 622, 663] (by decide +kernel) (by decide +kernel)
theorem thr_X9_137 : ∀ w ∈ Cond.classLink RX9 133 "java/lang/IllegalArgumentException" :: Cond.initialized "java/lang/IllegalArgumentException" :: vx_atS RX9 137 "java/lang/IllegalArgumentException" ["java/lang/RuntimeException", "java/lang/Exception"], w ∈ AW ∨ w ∈ OW := in_tbl [687, 89, 75, 624, 575, 584, 587, 589, 625, 626, 108, 109, 569, 574, 585, 592, 618, 593, 619, 594, 620, 570, 572, 621, 567, 568, 591, 621, 698, 699, 700, 561, 612, 561, 562, 563, 564, 614, 564, 565, 566, 567, 616, 697, 688, 689, 690, 579, 691, 692, 693, 694, 590, 622, 695] (by decide +kernel) (by decide +kernel)
theorem thr_X9_223 : ∀ w ∈ Cond.classLink RX9 219 "java/lang/UnsupportedOperationException" :: Cond.initialized "java/lang/UnsupportedOperationException" :: vx_atS RX9 223 "java/lang/UnsupportedOperationException" ["java/lang/RuntimeException", "java/lang/Exception"], w ∈ AW ∨ w ∈ OW := in_tbl [707, 90, 75, 624, 575, 584, 587, 589, 625, 626, 108, 109, 569, 574, 585, 592, 618, 593, 619, 594, 620, 570, 572, 621, 567, 568, 591, 621, 718, 719, 720, 561, 612, 561, 562, 563, 564, 614, 564, 565, 566, 567, 616, 717, 708, 709, 710, 582, 711, 712, 713, 714, 590, 622, 715] (by decide +kernel) (by decide +kernel)
theorem thr_X9_404 : ∀ w ∈ Cond.classLink RX9 400 "java/lang/ArithmeticException" :: Cond.initialized "java/lang/ArithmeticException" :: vx_atS RX9 404 "java/lang/ArithmeticException" ["java/lang/RuntimeException", "java/lang/Exception"], w ∈ AW ∨ w ∈ OW := in_tbl [1158, 100, 75, 624, 575, 584, 587, 589, 625, 626, 108, 109, 569, 574, 585, 592, 618, 593, 619, 594, 620, 570, 572, 621, 567, 568, 591, 621, 1134, 1135, 1136, 561, 612, 561, 562, 563, 564, 614, 564, 565, 566, 567, 616, 1160, 1133, 1144, 1145, 577, 1139, 1140, 1142, 1138, 590, 622, 1137] (by decide +kernel) (by decide +kernel)
/-- a code as a table -/
def tab (L : List (Nat × Sem)) (pc : Nat) : Sem := match L.find? (fun q => q.1 == pc) with
  | some q => q.2
  | none => k_no
def AllM : List (Nat × Sem) → Prop
  | [] => True
  | q :: r => Mono q.2 ∧ AllM r
def AllS (y : MethodName) (cc : ByteArray) (maxL : Nat) (ret : Option FieldType) (rm : Room) : List (Nat × Sem) → Prop
  | [] => True
  | q :: r => SndM y cc maxL ret rm q.1 q.2 ∧ AllS y cc maxL ret rm r
theorem tab_cons (q : Nat × Sem) (L : List (Nat × Sem)) (pc : Nat) : tab (q :: L) pc = if q.1 = pc then q.2 else tab L pc := by
  unfold tab
  rw [List.find?_cons]
  by_cases h : q.1 = pc
  · have e : (q.1 == pc) = true := by simpa using h
    rw [if_pos h, e]
  · have e : (q.1 == pc) = false := by simpa using h
    rw [if_neg h, e]
theorem tab_mono : ∀ {L : List (Nat × Sem)}, AllM L → ∀ pc, Mono (tab L pc)
  | [], _, pc => mono_no
  | q :: r, h, pc => by
    rw [tab_cons]
    split
    · exact h.1
    · exact tab_mono h.2 pc
theorem tab_snd {y : MethodName} {cc : ByteArray} {maxL : Nat} {ret : Option FieldType} {rm : Room} : ∀ {L : List (Nat × Sem)}, AllS y cc maxL ret rm L → ∀ pc, SndM y cc maxL ret rm pc (tab L pc)
  | [], _, pc => fun _ _ _ _ _ _ _ _ _ _ _ _ _ _ _ _ _ => snd_no
  | q :: r, h, pc => by
    rw [tab_cons]
    split
    · next e => subst e; exact h.1
    · exact tab_snd h.2 pc
def wT (maxL : Nat) (L : List (Nat × Sem)) : WT := fun av h Q => (av.flatMap (fun v => if cat2 v = true then [v, Value.null] else [v])).length ≤ maxL ∧ wpI (tab L) Q 0 (ent maxL av) [] h 0 0
theorem UM.ofT {y : MethodName} {cc : ByteArray} {maxL : Nat} {ret : Option FieldType} {rm : Room} {L : List (Nat × Sem)} (hy : plainName y.cls = true) (hc : AllS y cc maxL ret rm L) : UM y cc maxL ret rm (wT maxL L) := UM.of hy (tab_snd hc)
theorem wT_mono {maxL : Nat} {L : List (Nat × Sem)} (hm : AllM L) : ∀ av h (Q Q' : QT), (∀ r h, Q r h → Q' r h) → wT maxL L av h Q → wT maxL L av h Q' := fun _ _ _ _ hQ k => ⟨k.1, wpI.mono (tab_mono hm) hQ k.2⟩
