/-! the methods' codes as clean tables (printed by wip/whole/gen.py) -/
def rJxa1e45_init_da8c8 : Room := { frames := 1, cells := 0, slots := 0, locals := 20 }
def kJxa1e45_init_da8c8 : List (Nat × Sem) := [(0, k_ldA 1 0),
  (1, k_oinit 4),
  (4, k_retV 0 0)]
theorem mJxa1e45_init_da8c8 : AllM kJxa1e45_init_da8c8 := ⟨mono_ldA _ _, mono_oinit _, mono_retV _ _, trivial⟩
theorem sJxa1e45_init_da8c8 : AllS yJxa1e45_init_da8c8 cJxa1e45_init_da8c8 1 none rJxa1e45_init_da8c8 kJxa1e45_init_da8c8 := ⟨fun _ _ _ _ _ _ _ _ _ _ _ _ _ A hr hn hx => o_ldAn A rfl dJxa1e45_init_da8c8_0,
  fun _ _ _ _ _ _ _ _ _ _ _ _ _ A hr hn hx => o_oinit A aw_1139 aw_47 aw_oinit (by decide) (by decide) dJxa1e45_init_da8c8_1,
  fun _ _ _ _ _ _ _ _ _ _ _ _ _ A hr hn hx => o_retV A hr dJxa1e45_init_da8c8_4, trivial⟩
def wJxa1e45_init_da8c8 : WT := wT 1 kJxa1e45_init_da8c8
theorem uJxa1e45_init_da8c8 : UM yJxa1e45_init_da8c8 cJxa1e45_init_da8c8 1 none rJxa1e45_init_da8c8 wJxa1e45_init_da8c8 := UM.ofT rfl sJxa1e45_init_da8c8
theorem nJxa1e45_init_da8c8 : ∀ av h (Q Q' : QT), (∀ r h, Q r h → Q' r h) → wJxa1e45_init_da8c8 av h Q → wJxa1e45_init_da8c8 av h Q' := wT_mono mJxa1e45_init_da8c8
def rJxc12de_init_da8c8 : Room := { frames := 2, cells := 0, slots := 0, locals := 40 }
def kJxc12de_init_da8c8 : List (Nat × Sem) := [(0, k_ldA 1 0),
  (1, k_callI 4 0 0 0 0 0 wJxa1e45_init_da8c8),
  (4, k_ldA 5 0),
  (5, k_push 6 (.int 0)),
  (6, k_pI 9 3 0 0),
  (9, k_retV 0 0)]
theorem mJxc12de_init_da8c8 : AllM kJxc12de_init_da8c8 := ⟨mono_ldA _ _, mono_callI _ _ _ _ _ _ _ nJxa1e45_init_da8c8, mono_ldA _ _, mono_push _ _, mono_pI _ _ _ _, mono_retV _ _, trivial⟩
theorem sJxc12de_init_da8c8 : AllS yJxc12de_init_da8c8 cJxc12de_init_da8c8 1 none rJxc12de_init_da8c8 kJxc12de_init_da8c8 := ⟨fun _ _ _ _ _ _ _ _ _ _ _ _ _ A hr hn hx => o_ldAn A rfl dJxc12de_init_da8c8_0,
  fun _ _ _ _ _ _ _ _ _ _ _ _ _ A hr hn hx => o_callI A (rm := rJxa1e45_init_da8c8) uJxa1e45_init_da8c8 aw_1138 (Or.inl aw_1136) aw_1137 aw_11 rfl (by decide) (by decide) (Nat.le_refl _) (Nat.le_refl _) dJxc12de_init_da8c8_1,
  fun _ _ _ _ _ _ _ _ _ _ _ _ _ A hr hn hx => o_ldAn A rfl dJxc12de_init_da8c8_4,
  fun _ _ _ _ _ _ _ _ _ _ _ _ _ A hr hn hx => o_iconst A (by decide) dJxc12de_init_da8c8_5,
  fun _ _ _ _ _ _ _ _ _ _ _ _ _ A hr hn hx => o_pI A (C := RJx4a65c) (T := TJx4a65c) (N := 3) (ci := 3) rfl (by decide) hinJx4a65c rfl 0 (by decide) tyJx4a65c tyJx4a65c_ok nmJx4a65c aw_1144 (fun _ _ _ h => h) rfl (t := 0) rfl okv_int (fun _ _ _ _ => rfl) dJxc12de_init_da8c8_6,
  fun _ _ _ _ _ _ _ _ _ _ _ _ _ A hr hn hx => o_retV A hr dJxc12de_init_da8c8_9, trivial⟩
def wJxc12de_init_da8c8 : WT := wT 1 kJxc12de_init_da8c8
theorem uJxc12de_init_da8c8 : UM yJxc12de_init_da8c8 cJxc12de_init_da8c8 1 none rJxc12de_init_da8c8 wJxc12de_init_da8c8 := UM.ofT rfl sJxc12de_init_da8c8
theorem nJxc12de_init_da8c8 : ∀ av h (Q Q' : QT), (∀ r h, Q r h → Q' r h) → wJxc12de_init_da8c8 av h Q → wJxc12de_init_da8c8 av h Q' := wT_mono mJxc12de_init_da8c8
def rJx4a65c_init_da8c8 : Room := { frames := 3, cells := 0, slots := 0, locals := 60 }
def kJx4a65c_init_da8c8 : List (Nat × Sem) := [(0, k_ldA 1 0),
  (1, k_callI 4 0 0 0 0 0 wJxc12de_init_da8c8),
  (4, k_ldA 5 0),
  (5, k_push 8 (.ref 257)),
  (8, k_pR 11 3 1),
  (11, k_retV 0 0)]
theorem mJx4a65c_init_da8c8 : AllM kJx4a65c_init_da8c8 := ⟨mono_ldA _ _, mono_callI _ _ _ _ _ _ _ nJxc12de_init_da8c8, mono_ldA _ _, mono_push _ _, mono_pR _ _ _, mono_retV _ _, trivial⟩
theorem sJx4a65c_init_da8c8 : AllS yJx4a65c_init_da8c8 cJx4a65c_init_da8c8 1 none rJx4a65c_init_da8c8 kJx4a65c_init_da8c8 := ⟨fun _ _ _ _ _ _ _ _ _ _ _ _ _ A hr hn hx => o_ldAn A rfl dJx4a65c_init_da8c8_0,
  fun _ _ _ _ _ _ _ _ _ _ _ _ _ A hr hn hx => o_callI A (rm := rJxc12de_init_da8c8) uJxc12de_init_da8c8 aw_1135 (Or.inl aw_1133) aw_1134 aw_12 rfl (by decide) (by decide) (Nat.le_refl _) (Nat.le_refl _) dJx4a65c_init_da8c8_1,
  fun _ _ _ _ _ _ _ _ _ _ _ _ _ A hr hn hx => o_ldAn A rfl dJx4a65c_init_da8c8_4,
  fun _ _ _ _ _ _ _ _ _ _ _ _ _ A hr hn hx => o_gsR A (by decide) (by decide) A.gex.2.2.2.2.1 aw_1140 (fun _ h => h) dJx4a65c_init_da8c8_5,
  fun _ _ _ _ _ _ _ _ _ _ _ _ _ A hr hn hx => o_pR A (C := RJx4a65c) (T := TJx4a65c) (N := 3) (ci := 3) rfl (by decide) hinJx4a65c rfl 1 (by decide) tyJx4a65c tyJx4a65c_ok nmJx4a65c aw_1142 (fun _ _ _ h => h) rfl rfl okv_arr (fun _ _ _ _ => rfl) dJx4a65c_init_da8c8_8,
  fun _ _ _ _ _ _ _ _ _ _ _ _ _ A hr hn hx => o_retV A hr dJx4a65c_init_da8c8_11, trivial⟩
def wJx4a65c_init_da8c8 : WT := wT 1 kJx4a65c_init_da8c8
theorem uJx4a65c_init_da8c8 : UM yJx4a65c_init_da8c8 cJx4a65c_init_da8c8 1 none rJx4a65c_init_da8c8 wJx4a65c_init_da8c8 := UM.ofT rfl sJx4a65c_init_da8c8
theorem nJx4a65c_init_da8c8 : ∀ av h (Q Q' : QT), (∀ r h, Q r h → Q' r h) → wJx4a65c_init_da8c8 av h Q → wJx4a65c_init_da8c8 av h Q' := wT_mono mJx4a65c_init_da8c8
def rJx4a65c_size_8abf5 : Room := { frames := 0, cells := 0, slots := 0, locals := 0 }
def kJx4a65c_size_8abf5 : List (Nat × Sem) := [(0, k_ldA 1 0),
  (1, k_gI 4 3 2),
  (4, k_retI 0 0 0)]
theorem mJx4a65c_size_8abf5 : AllM kJx4a65c_size_8abf5 := ⟨mono_ldA _ _, mono_gI _ _ _, mono_retI _ _ _, trivial⟩
theorem sJx4a65c_size_8abf5 : AllS yJx4a65c_size_8abf5 cJx4a65c_size_8abf5 1 (some .int) rJx4a65c_size_8abf5 kJx4a65c_size_8abf5 := ⟨fun _ _ _ _ _ _ _ _ _ _ _ _ _ A hr hn hx => o_ldAn A rfl dJx4a65c_size_8abf5_0,
  fun _ _ _ _ _ _ _ _ _ _ _ _ _ A hr hn hx => o_gI A (C := RJx4a65c) (T := TJx4a65c) (N := 3) (ci := 3) rfl (by decide) hinJx4a65c rfl 2 (by decide) aw_1143 (fun _ _ _ h => h) (fun _ _ _ => rfl) dJx4a65c_size_8abf5_1,
  fun _ _ _ _ _ _ _ _ _ _ _ _ _ A hr hn hx => o_retI A hr okr_int dJx4a65c_size_8abf5_4, trivial⟩
def wJx4a65c_size_8abf5 : WT := wT 1 kJx4a65c_size_8abf5
theorem uJx4a65c_size_8abf5 : UM yJx4a65c_size_8abf5 cJx4a65c_size_8abf5 1 (some .int) rJx4a65c_size_8abf5 wJx4a65c_size_8abf5 := UM.ofT rfl sJx4a65c_size_8abf5
theorem nJx4a65c_size_8abf5 : ∀ av h (Q Q' : QT), (∀ r h, Q r h → Q' r h) → wJx4a65c_size_8abf5 av h Q → wJx4a65c_size_8abf5 av h Q' := wT_mono mJx4a65c_size_8abf5
def rJx4a65c_elementData_915e3 : Room := { frames := 0, cells := 0, slots := 0, locals := 0 }
def kJx4a65c_elementData_915e3 : List (Nat × Sem) := [(0, k_ldA 1 0),
  (1, k_gR 4 3 1),
  (4, k_ldI 5 1),
  (5, k_aR 6 108),
  (6, k_retA 0 0)]
theorem mJx4a65c_elementData_915e3 : AllM kJx4a65c_elementData_915e3 := ⟨mono_ldA _ _, mono_gR _ _ _, mono_ldI _ _, mono_aR _ _, mono_retA _ _, trivial⟩
theorem sJx4a65c_elementData_915e3 : AllS yJx4a65c_elementData_915e3 cJx4a65c_elementData_915e3 2 (some (.object "java/lang/Object")) rJx4a65c_elementData_915e3 kJx4a65c_elementData_915e3 := ⟨fun _ _ _ _ _ _ _ _ _ _ _ _ _ A hr hn hx => o_ldAn A rfl dJx4a65c_elementData_915e3_0,
  fun _ _ _ _ _ _ _ _ _ _ _ _ _ A hr hn hx => o_gR A (C := RJx4a65c) (T := TJx4a65c) (N := 3) (ci := 3) rfl (by decide) hinJx4a65c rfl 1 (by decide) aw_1142 (fun _ _ _ h => h) (fun _ _ _ => rfl) dJx4a65c_elementData_915e3_1,
  fun _ _ _ _ _ _ _ _ _ _ _ _ _ A hr hn hx => o_ldIn A rfl dJx4a65c_elementData_915e3_4,
  fun _ _ _ _ _ _ _ _ _ _ _ _ _ A hr hn hx => o_ald108 A dJx4a65c_elementData_915e3_5,
  fun _ _ _ _ _ _ _ _ _ _ _ _ _ A hr hn hx => o_retA A hr (Or.inl ⟨_, rfl⟩) dJx4a65c_elementData_915e3_6, trivial⟩
def wJx4a65c_elementData_915e3 : WT := wT 2 kJx4a65c_elementData_915e3
theorem uJx4a65c_elementData_915e3 : UM yJx4a65c_elementData_915e3 cJx4a65c_elementData_915e3 2 (some (.object "java/lang/Object")) rJx4a65c_elementData_915e3 wJx4a65c_elementData_915e3 := UM.ofT rfl sJx4a65c_elementData_915e3
theorem nJx4a65c_elementData_915e3 : ∀ av h (Q Q' : QT), (∀ r h, Q r h → Q' r h) → wJx4a65c_elementData_915e3 av h Q → wJx4a65c_elementData_915e3 av h Q' := wT_mono mJx4a65c_elementData_915e3
def rJ3_checkIndex_8e157 : Room := { frames := 0, cells := 0, slots := 0, locals := 0 }
def kJ3_checkIndex_8e157 : List (Nat × Sem) := [(0, k_ldI 1 0),
  (1, k_if 4 9 (fun x => x < 0)),
  (4, k_ldI 5 0),
  (5, k_ldI 6 1),
  (6, k_ic 9 16 (fun x y => x < y)),
  (9, k_ldA 10 2),
  (10, k_ldI 11 0),
  (11, k_ldI 12 1),
  (16, k_ldI 17 0),
  (17, k_retI 0 0 0)]
theorem mJ3_checkIndex_8e157 : AllM kJ3_checkIndex_8e157 := ⟨mono_ldI _ _, mono_if _ _ _, mono_ldI _ _, mono_ldI _ _, mono_ic _ _ _, mono_ldA _ _, mono_ldI _ _, mono_ldI _ _, mono_ldI _ _, mono_retI _ _ _, trivial⟩
theorem sJ3_checkIndex_8e157 : AllS yJ3_checkIndex_8e157 cJ3_checkIndex_8e157 3 (some .int) rJ3_checkIndex_8e157 kJ3_checkIndex_8e157 := ⟨fun _ _ _ _ _ _ _ _ _ _ _ _ _ A hr hn hx => o_ldIn A rfl dJ3_checkIndex_8e157_0,
  fun _ _ _ _ _ _ _ _ _ _ _ _ _ A hr hn hx => o_if_lt A (t := 9) (by decide) dJ3_checkIndex_8e157_1,
  fun _ _ _ _ _ _ _ _ _ _ _ _ _ A hr hn hx => o_ldIn A rfl dJ3_checkIndex_8e157_4,
  fun _ _ _ _ _ _ _ _ _ _ _ _ _ A hr hn hx => o_ldIn A rfl dJ3_checkIndex_8e157_5,
  fun _ _ _ _ _ _ _ _ _ _ _ _ _ A hr hn hx => o_ic_lt A (t := 16) (by decide) dJ3_checkIndex_8e157_6,
  fun _ _ _ _ _ _ _ _ _ _ _ _ _ A hr hn hx => o_ldAn A rfl dJ3_checkIndex_8e157_9,
  fun _ _ _ _ _ _ _ _ _ _ _ _ _ A hr hn hx => o_ldIn A rfl dJ3_checkIndex_8e157_10,
  fun _ _ _ _ _ _ _ _ _ _ _ _ _ A hr hn hx => o_ldIn A rfl dJ3_checkIndex_8e157_11,
  fun _ _ _ _ _ _ _ _ _ _ _ _ _ A hr hn hx => o_ldIn A rfl dJ3_checkIndex_8e157_16,
  fun _ _ _ _ _ _ _ _ _ _ _ _ _ A hr hn hx => o_retI A hr okr_int dJ3_checkIndex_8e157_17, trivial⟩
def wJ3_checkIndex_8e157 : WT := wT 3 kJ3_checkIndex_8e157
theorem uJ3_checkIndex_8e157 : UM yJ3_checkIndex_8e157 cJ3_checkIndex_8e157 3 (some .int) rJ3_checkIndex_8e157 wJ3_checkIndex_8e157 := UM.ofT rfl sJ3_checkIndex_8e157
theorem nJ3_checkIndex_8e157 : ∀ av h (Q Q' : QT), (∀ r h, Q r h → Q' r h) → wJ3_checkIndex_8e157 av h Q → wJ3_checkIndex_8e157 av h Q' := wT_mono mJ3_checkIndex_8e157
def rJ15_checkIndex_7cf53 : Room := { frames := 1, cells := 0, slots := 0, locals := 22 }
def kJ15_checkIndex_7cf53 : List (Nat × Sem) := [(0, k_ldI 1 0),
  (1, k_ldI 2 1),
  (2, k_push 3 (.ref 0)),
  (3, k_call 6 3 0 0 0 0 wJ3_checkIndex_8e157),
  (6, k_retI 0 0 0)]
theorem mJ15_checkIndex_7cf53 : AllM kJ15_checkIndex_7cf53 := ⟨mono_ldI _ _, mono_ldI _ _, mono_push _ _, mono_call _ _ _ _ _ _ _ nJ3_checkIndex_8e157, mono_retI _ _ _, trivial⟩
theorem sJ15_checkIndex_7cf53 : AllS yJ15_checkIndex_7cf53 cJ15_checkIndex_7cf53 2 (some .int) rJ15_checkIndex_7cf53 kJ15_checkIndex_7cf53 := ⟨fun _ _ _ _ _ _ _ _ _ _ _ _ _ A hr hn hx => o_ldIn A rfl dJ15_checkIndex_7cf53_0,
  fun _ _ _ _ _ _ _ _ _ _ _ _ _ A hr hn hx => o_ldIn A rfl dJ15_checkIndex_7cf53_1,
  fun _ _ _ _ _ _ _ _ _ _ _ _ _ A hr hn hx => o_null A dJ15_checkIndex_7cf53_2,
  fun _ _ _ _ _ _ _ _ _ _ _ _ _ A hr hn hx => o_callSx A (rm := rJ3_checkIndex_8e157) uJ3_checkIndex_8e157 aw_1423 aw_1421 aw_1422 aw_31 (by decide) (by decide) (Nat.le_refl _) (Nat.le_refl _) (exc_out hx A.2.2.2.2.2.2.1) dJ15_checkIndex_7cf53_3,
  fun _ _ _ _ _ _ _ _ _ _ _ _ _ A hr hn hx => o_retI A hr okr_int dJ15_checkIndex_7cf53_6, trivial⟩
def wJ15_checkIndex_7cf53 : WT := wT 2 kJ15_checkIndex_7cf53
theorem uJ15_checkIndex_7cf53 : UM yJ15_checkIndex_7cf53 cJ15_checkIndex_7cf53 2 (some .int) rJ15_checkIndex_7cf53 wJ15_checkIndex_7cf53 := UM.ofT rfl sJ15_checkIndex_7cf53
theorem nJ15_checkIndex_7cf53 : ∀ av h (Q Q' : QT), (∀ r h, Q r h → Q' r h) → wJ15_checkIndex_7cf53 av h Q → wJ15_checkIndex_7cf53 av h Q' := wT_mono mJ15_checkIndex_7cf53
def rJx4a65c_get_915e3 : Room := { frames := 2, cells := 0, slots := 0, locals := 43 }
def kJx4a65c_get_915e3 : List (Nat × Sem) := [(0, k_ldI 1 1),
  (1, k_ldA 2 0),
  (2, k_gI 5 3 2),
  (5, k_call 8 2 0 0 0 0 wJ15_checkIndex_7cf53),
  (8, k_pop 9),
  (9, k_ldA 10 0),
  (10, k_ldI 11 1),
  (11, k_callV 14 2 3 0 0 0 0 wJx4a65c_elementData_915e3),
  (14, k_retA 0 0)]
theorem mJx4a65c_get_915e3 : AllM kJx4a65c_get_915e3 := ⟨mono_ldI _ _, mono_ldA _ _, mono_gI _ _ _, mono_call _ _ _ _ _ _ _ nJ15_checkIndex_7cf53, mono_pop _, mono_ldA _ _, mono_ldI _ _, mono_callV _ _ _ _ _ _ _ _ nJx4a65c_elementData_915e3, mono_retA _ _, trivial⟩
theorem sJx4a65c_get_915e3 : AllS yJx4a65c_get_915e3 cJx4a65c_get_915e3 2 (some (.object "java/lang/Object")) rJx4a65c_get_915e3 kJx4a65c_get_915e3 := ⟨fun _ _ _ _ _ _ _ _ _ _ _ _ _ A hr hn hx => o_ldIn A rfl dJx4a65c_get_915e3_0,
  fun _ _ _ _ _ _ _ _ _ _ _ _ _ A hr hn hx => o_ldAn A rfl dJx4a65c_get_915e3_1,
  fun _ _ _ _ _ _ _ _ _ _ _ _ _ A hr hn hx => o_gI A (C := RJx4a65c) (T := TJx4a65c) (N := 3) (ci := 3) rfl (by decide) hinJx4a65c rfl 2 (by decide) aw_1143 (fun _ _ _ h => h) (fun _ _ _ => rfl) dJx4a65c_get_915e3_2,
  fun _ _ _ _ _ _ _ _ _ _ _ _ _ A hr hn hx => o_callSx A (rm := rJ15_checkIndex_7cf53) uJ15_checkIndex_7cf53 aw_1420 aw_1418 aw_1419 aw_30 (by decide) (by decide) (Nat.le_refl _) (Nat.le_refl _) (exc_out hx A.2.2.2.2.2.2.1) dJx4a65c_get_915e3_5,
  fun _ _ _ _ _ _ _ _ _ _ _ _ _ A hr hn hx => o_pop A dJx4a65c_get_915e3_8,
  fun _ _ _ _ _ _ _ _ _ _ _ _ _ A hr hn hx => o_ldAn A rfl dJx4a65c_get_915e3_9,
  fun _ _ _ _ _ _ _ _ _ _ _ _ _ A hr hn hx => o_ldIn A rfl dJx4a65c_get_915e3_10,
  fun _ _ _ _ _ _ _ _ _ _ _ _ _ A hr hn hx => o_callV A (rm := rJx4a65c_elementData_915e3) (C := RJx4a65c) (T := TJx4a65c) (N := 3) (ci := 3) uJx4a65c_elementData_915e3 aw_1427 rfl rfl (by decide) aw_1424 aw_1425 aw_1426 aw_13 (by decide) (by decide) (Nat.le_refl _) (Nat.le_refl _) (exc_out hx A.2.2.2.2.2.2.1) dJx4a65c_get_915e3_11,
  fun _ _ _ _ _ _ _ _ _ _ _ _ _ A hr hn hx => o_retA A hr (Or.inl ⟨_, rfl⟩) dJx4a65c_get_915e3_14, trivial⟩
def wJx4a65c_get_915e3 : WT := wT 2 kJx4a65c_get_915e3
theorem uJx4a65c_get_915e3 : UM yJx4a65c_get_915e3 cJx4a65c_get_915e3 2 (some (.object "java/lang/Object")) rJx4a65c_get_915e3 wJx4a65c_get_915e3 := UM.ofT rfl sJx4a65c_get_915e3
theorem nJx4a65c_get_915e3 : ∀ av h (Q Q' : QT), (∀ r h, Q r h → Q' r h) → wJx4a65c_get_915e3 av h Q → wJx4a65c_get_915e3 av h Q' := wT_mono mJx4a65c_get_915e3
def rJ8_newLength_cabcc : Room := { frames := 1, cells := 0, slots := 0, locals := 21 }
def kJ8_newLength_cabcc : List (Nat × Sem) := [(0, k_ldI 1 0),
  (1, k_ldI 2 1),
  (2, k_ldI 3 2),
  (3, k_max 6 0 0),
  (6, k_bI 7 (fun x y => x + y)),
  (7, k_stI 8 3),
  (8, k_push 9 (.int 0)),
  (9, k_ldI 10 3),
  (10, k_ic 13 21 (fun x y => y ≤ x)),
  (13, k_ldI 14 3),
  (14, k_push 16 (.int 2147483639)),
  (16, k_ic 19 21 (fun x y => y < x)),
  (19, k_ldI 20 3),
  (20, k_retI 0 0 0),
  (21, k_ldI 22 0),
  (22, k_ldI 23 1),
  (26, k_retI 0 0 0)]
theorem mJ8_newLength_cabcc : AllM kJ8_newLength_cabcc := ⟨mono_ldI _ _, mono_ldI _ _, mono_ldI _ _, mono_max _ _ _, mono_bI _ _, mono_stI _ _, mono_push _ _, mono_ldI _ _, mono_ic _ _ _, mono_ldI _ _, mono_push _ _, mono_ic _ _ _, mono_ldI _ _, mono_retI _ _ _, mono_ldI _ _, mono_ldI _ _, mono_retI _ _ _, trivial⟩
theorem sJ8_newLength_cabcc : AllS yJ8_newLength_cabcc cJ8_newLength_cabcc 4 (some .int) rJ8_newLength_cabcc kJ8_newLength_cabcc := ⟨fun _ _ _ _ _ _ _ _ _ _ _ _ _ A hr hn hx => o_ldIn A rfl dJ8_newLength_cabcc_0,
  fun _ _ _ _ _ _ _ _ _ _ _ _ _ A hr hn hx => o_ldIn A rfl dJ8_newLength_cabcc_1,
  fun _ _ _ _ _ _ _ _ _ _ _ _ _ A hr hn hx => o_ldIn A rfl dJ8_newLength_cabcc_2,
  fun _ _ _ _ _ _ _ _ _ _ _ _ _ A hr hn hx => o_max A aw_1294 aw_942 aw_25 aw_max (by decide) (by decide) (Nat.le_refl _) (Nat.le_refl _) dJ8_newLength_cabcc_3,
  fun _ _ _ _ _ _ _ _ _ _ _ _ _ A hr hn hx => o_iadd A dJ8_newLength_cabcc_6,
  fun _ _ _ _ _ _ _ _ _ _ _ _ _ A hr hn hx => o_stIn A rfl (by decide) dJ8_newLength_cabcc_7,
  fun _ _ _ _ _ _ _ _ _ _ _ _ _ A hr hn hx => o_iconst A (by decide) dJ8_newLength_cabcc_8,
  fun _ _ _ _ _ _ _ _ _ _ _ _ _ A hr hn hx => o_ldIn A rfl dJ8_newLength_cabcc_9,
  fun _ _ _ _ _ _ _ _ _ _ _ _ _ A hr hn hx => o_ic_ge A (t := 21) (by decide) dJ8_newLength_cabcc_10,
  fun _ _ _ _ _ _ _ _ _ _ _ _ _ A hr hn hx => o_ldIn A rfl dJ8_newLength_cabcc_13,
  fun _ _ _ _ _ _ _ _ _ _ _ _ _ A hr hn hx => o_ldc A aw_1295 dJ8_newLength_cabcc_14,
  fun _ _ _ _ _ _ _ _ _ _ _ _ _ A hr hn hx => o_ic_gt A (t := 21) (by decide) dJ8_newLength_cabcc_16,
  fun _ _ _ _ _ _ _ _ _ _ _ _ _ A hr hn hx => o_ldIn A rfl dJ8_newLength_cabcc_19,
  fun _ _ _ _ _ _ _ _ _ _ _ _ _ A hr hn hx => o_retI A hr okr_int dJ8_newLength_cabcc_20,
  fun _ _ _ _ _ _ _ _ _ _ _ _ _ A hr hn hx => o_ldIn A rfl dJ8_newLength_cabcc_21,
  fun _ _ _ _ _ _ _ _ _ _ _ _ _ A hr hn hx => o_ldIn A rfl dJ8_newLength_cabcc_22,
  fun _ _ _ _ _ _ _ _ _ _ _ _ _ A hr hn hx => o_retI A hr okr_int dJ8_newLength_cabcc_26, trivial⟩
def wJ8_newLength_cabcc : WT := wT 4 kJ8_newLength_cabcc
theorem uJ8_newLength_cabcc : UM yJ8_newLength_cabcc cJ8_newLength_cabcc 4 (some .int) rJ8_newLength_cabcc wJ8_newLength_cabcc := UM.ofT rfl sJ8_newLength_cabcc
theorem nJ8_newLength_cabcc : ∀ av h (Q Q' : QT), (∀ r h, Q r h → Q' r h) → wJ8_newLength_cabcc av h Q → wJ8_newLength_cabcc av h Q' := wT_mono mJ8_newLength_cabcc
def rJ7_copyOf_6403c : Room := { frames := 1, cells := 1, slots := 128, locals := 60 }
def kJ7_copyOf_6403c : List (Nat × Sem) := [(0, k_ldA 1 2),
  (1, k_push 3 (.ref 259)),
  (3, k_aeq 6),
  (6, k_ldI 7 1),
  (7, k_newa 10 108 1 128),
  (10, k_goto 24),
  (13, k_ldA 14 2),
  (17, k_ldI 18 1),
  (24, k_stA 25 3),
  (25, k_ldA 26 0),
  (26, k_push 27 (.int 0)),
  (27, k_ldA 28 3),
  (28, k_push 29 (.int 0)),
  (29, k_ldA 30 0),
  (30, k_alen 31),
  (31, k_ldI 32 1),
  (32, k_min 35 1 128),
  (35, k_copyR 38),
  (38, k_ldA 39 3),
  (39, k_retA 1 128)]
theorem mJ7_copyOf_6403c : AllM kJ7_copyOf_6403c := ⟨mono_ldA _ _, mono_push _ _, mono_aeq _, mono_ldI _ _, mono_newa _ _ _ _, mono_goto _, mono_ldA _ _, mono_ldI _ _, mono_stA _ _, mono_ldA _ _, mono_push _ _, mono_ldA _ _, mono_push _ _, mono_ldA _ _, mono_alen _, mono_ldI _ _, mono_min _ _ _, mono_copyR _, mono_ldA _ _, mono_retA _ _, trivial⟩
theorem sJ7_copyOf_6403c : AllS yJ7_copyOf_6403c cJ7_copyOf_6403c 4 (some (.array (.object "java/lang/Object"))) rJ7_copyOf_6403c kJ7_copyOf_6403c := ⟨fun _ _ _ _ _ _ _ _ _ _ _ _ _ A hr hn hx => o_ldAn A rfl dJ7_copyOf_6403c_0,
  fun _ _ _ _ _ _ _ _ _ _ _ _ _ A hr hn hx => o_ldcM A aw_1331 dJ7_copyOf_6403c_1,
  fun _ _ _ _ _ _ _ _ _ _ _ _ _ A hr hn hx => o_acmpne A (t := 13) (by decide) dJ7_copyOf_6403c_3,
  fun _ _ _ _ _ _ _ _ _ _ _ _ _ A hr hn hx => o_ldIn A rfl dJ7_copyOf_6403c_6,
  fun _ _ _ _ _ _ _ _ _ _ _ _ _ A hr hn hx => o_newq108 A aw_1333 (Nat.le_refl _) (Nat.le_refl _) (by decide) dJ7_copyOf_6403c_7,
  fun _ _ _ _ _ _ _ _ _ _ _ _ _ A hr hn hx => o_goto A (t := 24) (by decide) dJ7_copyOf_6403c_10,
  fun _ _ _ _ _ _ _ _ _ _ _ _ _ A hr hn hx => o_ldAn A rfl dJ7_copyOf_6403c_13,
  fun _ _ _ _ _ _ _ _ _ _ _ _ _ A hr hn hx => o_ldIn A rfl dJ7_copyOf_6403c_17,
  fun _ _ _ _ _ _ _ _ _ _ _ _ _ A hr hn hx => o_stAn A rfl (by decide) dJ7_copyOf_6403c_24,
  fun _ _ _ _ _ _ _ _ _ _ _ _ _ A hr hn hx => o_ldAn A rfl dJ7_copyOf_6403c_25,
  fun _ _ _ _ _ _ _ _ _ _ _ _ _ A hr hn hx => o_iconst A (by decide) dJ7_copyOf_6403c_26,
  fun _ _ _ _ _ _ _ _ _ _ _ _ _ A hr hn hx => o_ldAn A rfl dJ7_copyOf_6403c_27,
  fun _ _ _ _ _ _ _ _ _ _ _ _ _ A hr hn hx => o_iconst A (by decide) dJ7_copyOf_6403c_28,
  fun _ _ _ _ _ _ _ _ _ _ _ _ _ A hr hn hx => o_ldAn A rfl dJ7_copyOf_6403c_29,
  fun _ _ _ _ _ _ _ _ _ _ _ _ _ A hr hn hx => o_alen A dJ7_copyOf_6403c_30,
  fun _ _ _ _ _ _ _ _ _ _ _ _ _ A hr hn hx => o_ldIn A rfl dJ7_copyOf_6403c_31,
  fun _ _ _ _ _ _ _ _ _ _ _ _ _ A hr hn hx => o_min A aw_1334 aw_945 aw_25 aw_min (by decide) (by decide) (Nat.le_refl _) (Nat.le_refl _) dJ7_copyOf_6403c_32,
  fun _ _ _ _ _ _ _ _ _ _ _ _ _ A hr hn hx => o_copyR A aw_1847 aw_1335 aw_772 aw_771 aw_27 (by decide) (by decide) dJ7_copyOf_6403c_35,
  fun _ _ _ _ _ _ _ _ _ _ _ _ _ A hr hn hx => o_ldAn A rfl dJ7_copyOf_6403c_38,
  fun _ _ _ _ _ _ _ _ _ _ _ _ _ A hr hn hx => o_retA A hr (Or.inr ⟨_, rfl⟩) dJ7_copyOf_6403c_39, trivial⟩
def wJ7_copyOf_6403c : WT := wT 4 kJ7_copyOf_6403c
theorem uJ7_copyOf_6403c : UM yJ7_copyOf_6403c cJ7_copyOf_6403c 4 (some (.array (.object "java/lang/Object"))) rJ7_copyOf_6403c wJ7_copyOf_6403c := UM.ofT rfl sJ7_copyOf_6403c
theorem nJ7_copyOf_6403c : ∀ av h (Q Q' : QT), (∀ r h, Q r h → Q' r h) → wJ7_copyOf_6403c av h Q → wJ7_copyOf_6403c av h Q' := wT_mono mJ7_copyOf_6403c
def rJ7_copyOf_1904c : Room := { frames := 2, cells := 1, slots := 128, locals := 83 }
def kJ7_copyOf_1904c : List (Nat × Sem) := [(0, k_ldA 1 0),
  (1, k_ldI 2 1),
  (2, k_ldA 3 0),
  (3, k_getC 6),
  (6, k_call 9 3 1 128 1 128 wJ7_copyOf_6403c),
  (9, k_retA 1 128)]
theorem mJ7_copyOf_1904c : AllM kJ7_copyOf_1904c := ⟨mono_ldA _ _, mono_ldI _ _, mono_ldA _ _, mono_getC _, mono_call _ _ _ _ _ _ _ nJ7_copyOf_6403c, mono_retA _ _, trivial⟩
theorem sJ7_copyOf_1904c : AllS yJ7_copyOf_1904c cJ7_copyOf_1904c 2 (some (.array (.object "java/lang/Object"))) rJ7_copyOf_1904c kJ7_copyOf_1904c := ⟨fun _ _ _ _ _ _ _ _ _ _ _ _ _ A hr hn hx => o_ldAn A rfl dJ7_copyOf_1904c_0,
  fun _ _ _ _ _ _ _ _ _ _ _ _ _ A hr hn hx => o_ldIn A rfl dJ7_copyOf_1904c_1,
  fun _ _ _ _ _ _ _ _ _ _ _ _ _ A hr hn hx => o_ldAn A rfl dJ7_copyOf_1904c_2,
  fun _ _ _ _ _ _ _ _ _ _ _ _ _ A hr hn hx => o_getC A aw_1302 aw_1868 aw_1303 aw_1327 (by decide) (by decide) dJ7_copyOf_1904c_3,
  fun _ _ _ _ _ _ _ _ _ _ _ _ _ A hr hn hx => o_callS A (rm := rJ7_copyOf_6403c) uJ7_copyOf_6403c aw_1330 rfl aw_1328 aw_1329 aw_26 (by decide) (by decide) (Nat.le_refl _) (Nat.le_refl _) (exc_out hx A.2.2.2.2.2.2.1) dJ7_copyOf_1904c_6,
  fun _ _ _ _ _ _ _ _ _ _ _ _ _ A hr hn hx => o_retA A hr (Or.inr ⟨_, rfl⟩) dJ7_copyOf_1904c_9, trivial⟩
def wJ7_copyOf_1904c : WT := wT 2 kJ7_copyOf_1904c
theorem uJ7_copyOf_1904c : UM yJ7_copyOf_1904c cJ7_copyOf_1904c 2 (some (.array (.object "java/lang/Object"))) rJ7_copyOf_1904c wJ7_copyOf_1904c := UM.ofT rfl sJ7_copyOf_1904c
theorem nJ7_copyOf_1904c : ∀ av h (Q Q' : QT), (∀ r h, Q r h → Q' r h) → wJ7_copyOf_1904c av h Q → wJ7_copyOf_1904c av h Q' := wT_mono mJ7_copyOf_1904c
def rJx4a65c_grow_92f84 : Room := { frames := 3, cells := 2, slots := 256, locals := 104 }
def kJx4a65c_grow_92f84 : List (Nat × Sem) := [(0, k_ldA 1 0),
  (1, k_gR 4 3 1),
  (4, k_alenX 5 257 0),
  (5, k_stI 6 2),
  (6, k_ldI 7 2),
  (7, k_if 10 20 (fun x => 0 < x)),
  (10, k_ldA 11 0),
  (11, k_gR 14 3 1),
  (14, k_push 17 (.ref 257)),
  (17, k_aeq 45),
  (20, k_ldI 21 2),
  (21, k_ldI 22 1),
  (22, k_ldI 23 2),
  (23, k_bI 24 (fun x y => x - y)),
  (24, k_ldI 25 2),
  (25, k_push 26 (.int 1)),
  (26, k_bI 27 (fun x y => x >>> (y &&& 31))),
  (27, k_call 30 3 0 0 2 256 wJ8_newLength_cabcc),
  (30, k_stI 31 3),
  (31, k_ldA 32 0),
  (32, k_ldA 33 0),
  (33, k_gR 36 3 1),
  (36, k_ldI 37 3),
  (37, k_call 40 2 1 128 2 256 wJ7_copyOf_1904c),
  (40, k_dupx1 41),
  (41, k_pR 44 3 1),
  (44, k_retA 2 256),
  (45, k_ldA 46 0),
  (46, k_push 48 (.int 10)),
  (48, k_ldI 49 1),
  (49, k_max 52 2 256),
  (52, k_newa 55 108 2 256),
  (55, k_dupx1 56),
  (56, k_pR 59 3 1),
  (59, k_retA 2 256)]
theorem mJx4a65c_grow_92f84 : AllM kJx4a65c_grow_92f84 := ⟨mono_ldA _ _, mono_gR _ _ _, mono_alenX _ _ _, mono_stI _ _, mono_ldI _ _, mono_if _ _ _, mono_ldA _ _, mono_gR _ _ _, mono_push _ _, mono_aeq _, mono_ldI _ _, mono_ldI _ _, mono_ldI _ _, mono_bI _ _, mono_ldI _ _, mono_push _ _, mono_bI _ _, mono_call _ _ _ _ _ _ _ nJ8_newLength_cabcc, mono_stI _ _, mono_ldA _ _, mono_ldA _ _, mono_gR _ _ _, mono_ldI _ _, mono_call _ _ _ _ _ _ _ nJ7_copyOf_1904c, mono_dupx1 _, mono_pR _ _ _, mono_retA _ _, mono_ldA _ _, mono_push _ _, mono_ldI _ _, mono_max _ _ _, mono_newa _ _ _ _, mono_dupx1 _, mono_pR _ _ _, mono_retA _ _, trivial⟩
theorem sJx4a65c_grow_92f84 : AllS yJx4a65c_grow_92f84 cJx4a65c_grow_92f84 4 (some (.array (.object "java/lang/Object"))) rJx4a65c_grow_92f84 kJx4a65c_grow_92f84 := ⟨fun _ _ _ _ _ _ _ _ _ _ _ _ _ A hr hn hx => o_ldAn A rfl dJx4a65c_grow_92f84_0,
  fun _ _ _ _ _ _ _ _ _ _ _ _ _ A hr hn hx => o_gR A (C := RJx4a65c) (T := TJx4a65c) (N := 3) (ci := 3) rfl (by decide) hinJx4a65c rfl 1 (by decide) aw_1142 (fun _ _ _ h => h) (fun _ _ _ => rfl) dJx4a65c_grow_92f84_1,
  fun _ _ _ _ _ _ _ _ _ _ _ _ _ A hr hn hx => o_alenX A (by decide) (by decide) A.gex.2.2.2.2.2.1 dJx4a65c_grow_92f84_4,
  fun _ _ _ _ _ _ _ _ _ _ _ _ _ A hr hn hx => o_stIn A rfl (by decide) dJx4a65c_grow_92f84_5,
  fun _ _ _ _ _ _ _ _ _ _ _ _ _ A hr hn hx => o_ldIn A rfl dJx4a65c_grow_92f84_6,
  fun _ _ _ _ _ _ _ _ _ _ _ _ _ A hr hn hx => o_if_gt A (t := 20) (by decide) dJx4a65c_grow_92f84_7,
  fun _ _ _ _ _ _ _ _ _ _ _ _ _ A hr hn hx => o_ldAn A rfl dJx4a65c_grow_92f84_10,
  fun _ _ _ _ _ _ _ _ _ _ _ _ _ A hr hn hx => o_gR A (C := RJx4a65c) (T := TJx4a65c) (N := 3) (ci := 3) rfl (by decide) hinJx4a65c rfl 1 (by decide) aw_1142 (fun _ _ _ h => h) (fun _ _ _ => rfl) dJx4a65c_grow_92f84_11,
  fun _ _ _ _ _ _ _ _ _ _ _ _ _ A hr hn hx => o_gsR A (by decide) (by decide) A.gex.2.2.2.2.1 aw_1140 (fun _ h => h) dJx4a65c_grow_92f84_14,
  fun _ _ _ _ _ _ _ _ _ _ _ _ _ A hr hn hx => o_acmpeq A (t := 45) (by decide) dJx4a65c_grow_92f84_17,
  fun _ _ _ _ _ _ _ _ _ _ _ _ _ A hr hn hx => o_ldIn A rfl dJx4a65c_grow_92f84_20,
  fun _ _ _ _ _ _ _ _ _ _ _ _ _ A hr hn hx => o_ldIn A rfl dJx4a65c_grow_92f84_21,
  fun _ _ _ _ _ _ _ _ _ _ _ _ _ A hr hn hx => o_ldIn A rfl dJx4a65c_grow_92f84_22,
  fun _ _ _ _ _ _ _ _ _ _ _ _ _ A hr hn hx => o_isub A dJx4a65c_grow_92f84_23,
  fun _ _ _ _ _ _ _ _ _ _ _ _ _ A hr hn hx => o_ldIn A rfl dJx4a65c_grow_92f84_24,
  fun _ _ _ _ _ _ _ _ _ _ _ _ _ A hr hn hx => o_iconst A (by decide) dJx4a65c_grow_92f84_25,
  fun _ _ _ _ _ _ _ _ _ _ _ _ _ A hr hn hx => o_ishr A dJx4a65c_grow_92f84_26,
  fun _ _ _ _ _ _ _ _ _ _ _ _ _ A hr hn hx => o_callSx A (rm := rJ8_newLength_cabcc) uJ8_newLength_cabcc aw_1293 aw_1291 aw_1292 aw_24 (by decide) (by decide) (Nat.le_refl _) (Nat.le_refl _) (exc_out hx A.2.2.2.2.2.2.1) dJx4a65c_grow_92f84_27,
  fun _ _ _ _ _ _ _ _ _ _ _ _ _ A hr hn hx => o_stIn A rfl (by decide) dJx4a65c_grow_92f84_30,
  fun _ _ _ _ _ _ _ _ _ _ _ _ _ A hr hn hx => o_ldAn A rfl dJx4a65c_grow_92f84_31,
  fun _ _ _ _ _ _ _ _ _ _ _ _ _ A hr hn hx => o_ldAn A rfl dJx4a65c_grow_92f84_32,
  fun _ _ _ _ _ _ _ _ _ _ _ _ _ A hr hn hx => o_gR A (C := RJx4a65c) (T := TJx4a65c) (N := 3) (ci := 3) rfl (by decide) hinJx4a65c rfl 1 (by decide) aw_1142 (fun _ _ _ h => h) (fun _ _ _ => rfl) dJx4a65c_grow_92f84_33,
  fun _ _ _ _ _ _ _ _ _ _ _ _ _ A hr hn hx => o_ldIn A rfl dJx4a65c_grow_92f84_36,
  fun _ _ _ _ _ _ _ _ _ _ _ _ _ A hr hn hx => o_callSx A (rm := rJ7_copyOf_1904c) uJ7_copyOf_1904c aw_1301 aw_1299 aw_1300 aw_26 (by decide) (by decide) (Nat.le_refl _) (Nat.le_refl _) (exc_out hx A.2.2.2.2.2.2.1) dJx4a65c_grow_92f84_37,
  fun _ _ _ _ _ _ _ _ _ _ _ _ _ A hr hn hx => o_dupx1 A dJx4a65c_grow_92f84_40,
  fun _ _ _ _ _ _ _ _ _ _ _ _ _ A hr hn hx => o_pR A (C := RJx4a65c) (T := TJx4a65c) (N := 3) (ci := 3) rfl (by decide) hinJx4a65c rfl 1 (by decide) tyJx4a65c tyJx4a65c_ok nmJx4a65c aw_1142 (fun _ _ _ h => h) rfl rfl okv_arr (fun _ _ _ _ => rfl) dJx4a65c_grow_92f84_41,
  fun _ _ _ _ _ _ _ _ _ _ _ _ _ A hr hn hx => o_retA A hr (Or.inr ⟨_, rfl⟩) dJx4a65c_grow_92f84_44,
  fun _ _ _ _ _ _ _ _ _ _ _ _ _ A hr hn hx => o_ldAn A rfl dJx4a65c_grow_92f84_45,
  fun _ _ _ _ _ _ _ _ _ _ _ _ _ A hr hn hx => o_bipush A (by decide) dJx4a65c_grow_92f84_46,
  fun _ _ _ _ _ _ _ _ _ _ _ _ _ A hr hn hx => o_ldIn A rfl dJx4a65c_grow_92f84_48,
  fun _ _ _ _ _ _ _ _ _ _ _ _ _ A hr hn hx => o_max A aw_1336 aw_942 aw_25 aw_max (by decide) (by decide) (Nat.le_refl _) (Nat.le_refl _) dJx4a65c_grow_92f84_49,
  fun _ _ _ _ _ _ _ _ _ _ _ _ _ A hr hn hx => o_newq108 A aw_1337 (Nat.le_refl _) (Nat.le_refl _) (by decide) dJx4a65c_grow_92f84_52,
  fun _ _ _ _ _ _ _ _ _ _ _ _ _ A hr hn hx => o_dupx1 A dJx4a65c_grow_92f84_55,
  fun _ _ _ _ _ _ _ _ _ _ _ _ _ A hr hn hx => o_pR A (C := RJx4a65c) (T := TJx4a65c) (N := 3) (ci := 3) rfl (by decide) hinJx4a65c rfl 1 (by decide) tyJx4a65c tyJx4a65c_ok nmJx4a65c aw_1142 (fun _ _ _ h => h) rfl rfl okv_arr (fun _ _ _ _ => rfl) dJx4a65c_grow_92f84_56,
  fun _ _ _ _ _ _ _ _ _ _ _ _ _ A hr hn hx => o_retA A hr (Or.inr ⟨_, rfl⟩) dJx4a65c_grow_92f84_59, trivial⟩
def wJx4a65c_grow_92f84 : WT := wT 4 kJx4a65c_grow_92f84
theorem uJx4a65c_grow_92f84 : UM yJx4a65c_grow_92f84 cJx4a65c_grow_92f84 4 (some (.array (.object "java/lang/Object"))) rJx4a65c_grow_92f84 wJx4a65c_grow_92f84 := UM.ofT rfl sJx4a65c_grow_92f84
theorem nJx4a65c_grow_92f84 : ∀ av h (Q Q' : QT), (∀ r h, Q r h → Q' r h) → wJx4a65c_grow_92f84 av h Q → wJx4a65c_grow_92f84 av h Q' := wT_mono mJx4a65c_grow_92f84
def rJx4a65c_grow_d5877 : Room := { frames := 4, cells := 2, slots := 256, locals := 127 }
def kJx4a65c_grow_d5877 : List (Nat × Sem) := [(0, k_ldA 1 0),
  (1, k_ldA 2 0),
  (2, k_gI 5 3 2),
  (5, k_push 6 (.int 1)),
  (6, k_bI 7 (fun x y => x + y)),
  (7, k_callV 10 2 3 2 256 2 256 wJx4a65c_grow_92f84),
  (10, k_retA 2 256)]
theorem mJx4a65c_grow_d5877 : AllM kJx4a65c_grow_d5877 := ⟨mono_ldA _ _, mono_ldA _ _, mono_gI _ _ _, mono_push _ _, mono_bI _ _, mono_callV _ _ _ _ _ _ _ _ nJx4a65c_grow_92f84, mono_retA _ _, trivial⟩
theorem sJx4a65c_grow_d5877 : AllS yJx4a65c_grow_d5877 cJx4a65c_grow_d5877 1 (some (.array (.object "java/lang/Object"))) rJx4a65c_grow_d5877 kJx4a65c_grow_d5877 := ⟨fun _ _ _ _ _ _ _ _ _ _ _ _ _ A hr hn hx => o_ldAn A rfl dJx4a65c_grow_d5877_0,
  fun _ _ _ _ _ _ _ _ _ _ _ _ _ A hr hn hx => o_ldAn A rfl dJx4a65c_grow_d5877_1,
  fun _ _ _ _ _ _ _ _ _ _ _ _ _ A hr hn hx => o_gI A (C := RJx4a65c) (T := TJx4a65c) (N := 3) (ci := 3) rfl (by decide) hinJx4a65c rfl 2 (by decide) aw_1143 (fun _ _ _ h => h) (fun _ _ _ => rfl) dJx4a65c_grow_d5877_2,
  fun _ _ _ _ _ _ _ _ _ _ _ _ _ A hr hn hx => o_iconst A (by decide) dJx4a65c_grow_d5877_5,
  fun _ _ _ _ _ _ _ _ _ _ _ _ _ A hr hn hx => o_iadd A dJx4a65c_grow_d5877_6,
  fun _ _ _ _ _ _ _ _ _ _ _ _ _ A hr hn hx => o_callV A (rm := rJx4a65c_grow_92f84) (C := RJx4a65c) (T := TJx4a65c) (N := 3) (ci := 3) uJx4a65c_grow_92f84 aw_1290 rfl rfl (by decide) aw_1287 aw_1289 aw_p31 aw_13 (by decide) (by decide) (Nat.le_refl _) (Nat.le_refl _) (exc_out hx A.2.2.2.2.2.2.1) dJx4a65c_grow_d5877_7,
  fun _ _ _ _ _ _ _ _ _ _ _ _ _ A hr hn hx => o_retA A hr (Or.inr ⟨_, rfl⟩) dJx4a65c_grow_d5877_10, trivial⟩
def wJx4a65c_grow_d5877 : WT := wT 1 kJx4a65c_grow_d5877
theorem uJx4a65c_grow_d5877 : UM yJx4a65c_grow_d5877 cJx4a65c_grow_d5877 1 (some (.array (.object "java/lang/Object"))) rJx4a65c_grow_d5877 wJx4a65c_grow_d5877 := UM.ofT rfl sJx4a65c_grow_d5877
theorem nJx4a65c_grow_d5877 : ∀ av h (Q Q' : QT), (∀ r h, Q r h → Q' r h) → wJx4a65c_grow_d5877 av h Q → wJx4a65c_grow_d5877 av h Q' := wT_mono mJx4a65c_grow_d5877
def rJx4a65c_add_72be8 : Room := { frames := 5, cells := 2, slots := 256, locals := 147 }
def kJx4a65c_add_72be8 : List (Nat × Sem) := [(0, k_ldI 1 3),
  (1, k_ldA 2 2),
  (2, k_alenX 3 257 0),
  (3, k_ic 11 6 (fun x y => x = y)),
  (6, k_ldA 7 0),
  (7, k_callV 10 1 3 2 256 2 256 wJx4a65c_grow_d5877),
  (10, k_stA 11 2),
  (11, k_ldA 12 2),
  (12, k_ldI 13 3),
  (13, k_ldA 14 1),
  (14, k_sO 15),
  (15, k_ldA 16 0),
  (16, k_ldI 17 3),
  (17, k_push 18 (.int 1)),
  (18, k_bI 19 (fun x y => x + y)),
  (19, k_pI 22 3 2 0),
  (22, k_retV 2 256)]
theorem mJx4a65c_add_72be8 : AllM kJx4a65c_add_72be8 := ⟨mono_ldI _ _, mono_ldA _ _, mono_alenX _ _ _, mono_ic _ _ _, mono_ldA _ _, mono_callV _ _ _ _ _ _ _ _ nJx4a65c_grow_d5877, mono_stA _ _, mono_ldA _ _, mono_ldI _ _, mono_ldA _ _, mono_sO _, mono_ldA _ _, mono_ldI _ _, mono_push _ _, mono_bI _ _, mono_pI _ _ _ _, mono_retV _ _, trivial⟩
theorem sJx4a65c_add_72be8 : AllS yJx4a65c_add_72be8 cJx4a65c_add_72be8 4 none rJx4a65c_add_72be8 kJx4a65c_add_72be8 := ⟨fun _ _ _ _ _ _ _ _ _ _ _ _ _ A hr hn hx => o_ldIn A rfl dJx4a65c_add_72be8_0,
  fun _ _ _ _ _ _ _ _ _ _ _ _ _ A hr hn hx => o_ldAn A rfl dJx4a65c_add_72be8_1,
  fun _ _ _ _ _ _ _ _ _ _ _ _ _ A hr hn hx => o_alenX A (by decide) (by decide) A.gex.2.2.2.2.2.1 dJx4a65c_add_72be8_2,
  fun _ _ _ _ _ _ _ _ _ _ _ _ _ A hr hn hx => o_ic_ne A (t := 11) (by decide) dJx4a65c_add_72be8_3,
  fun _ _ _ _ _ _ _ _ _ _ _ _ _ A hr hn hx => o_ldAn A rfl dJx4a65c_add_72be8_6,
  fun _ _ _ _ _ _ _ _ _ _ _ _ _ A hr hn hx => o_callV A (rm := rJx4a65c_grow_d5877) (C := RJx4a65c) (T := TJx4a65c) (N := 3) (ci := 3) uJx4a65c_grow_d5877 aw_1286 rfl rfl (by decide) aw_1283 aw_1285 aw_p30 aw_13 (by decide) (by decide) (Nat.le_refl _) (Nat.le_refl _) (exc_out hx A.2.2.2.2.2.2.1) dJx4a65c_add_72be8_7,
  fun _ _ _ _ _ _ _ _ _ _ _ _ _ A hr hn hx => o_stAn A rfl (by decide) dJx4a65c_add_72be8_10,
  fun _ _ _ _ _ _ _ _ _ _ _ _ _ A hr hn hx => o_ldAn A rfl dJx4a65c_add_72be8_11,
  fun _ _ _ _ _ _ _ _ _ _ _ _ _ A hr hn hx => o_ldIn A rfl dJx4a65c_add_72be8_12,
  fun _ _ _ _ _ _ _ _ _ _ _ _ _ A hr hn hx => o_ldAn A rfl dJx4a65c_add_72be8_13,
  fun _ _ _ _ _ _ _ _ _ _ _ _ _ A hr hn hx => o_sO A aw_1847 aw_1863 dJx4a65c_add_72be8_14,
  fun _ _ _ _ _ _ _ _ _ _ _ _ _ A hr hn hx => o_ldAn A rfl dJx4a65c_add_72be8_15,
  fun _ _ _ _ _ _ _ _ _ _ _ _ _ A hr hn hx => o_ldIn A rfl dJx4a65c_add_72be8_16,
  fun _ _ _ _ _ _ _ _ _ _ _ _ _ A hr hn hx => o_iconst A (by decide) dJx4a65c_add_72be8_17,
  fun _ _ _ _ _ _ _ _ _ _ _ _ _ A hr hn hx => o_iadd A dJx4a65c_add_72be8_18,
  fun _ _ _ _ _ _ _ _ _ _ _ _ _ A hr hn hx => o_pI A (C := RJx4a65c) (T := TJx4a65c) (N := 3) (ci := 3) rfl (by decide) hinJx4a65c rfl 2 (by decide) tyJx4a65c tyJx4a65c_ok nmJx4a65c aw_1143 (fun _ _ _ h => h) rfl (t := 0) rfl okv_int (fun _ _ _ _ => rfl) dJx4a65c_add_72be8_19,
  fun _ _ _ _ _ _ _ _ _ _ _ _ _ A hr hn hx => o_retV A hr dJx4a65c_add_72be8_22, trivial⟩
def wJx4a65c_add_72be8 : WT := wT 4 kJx4a65c_add_72be8
theorem uJx4a65c_add_72be8 : UM yJx4a65c_add_72be8 cJx4a65c_add_72be8 4 none rJx4a65c_add_72be8 wJx4a65c_add_72be8 := UM.ofT rfl sJx4a65c_add_72be8
theorem nJx4a65c_add_72be8 : ∀ av h (Q Q' : QT), (∀ r h, Q r h → Q' r h) → wJx4a65c_add_72be8 av h Q → wJx4a65c_add_72be8 av h Q' := wT_mono mJx4a65c_add_72be8
def rJx4a65c_add_9ea2d : Room := { frames := 6, cells := 2, slots := 256, locals := 170 }
def kJx4a65c_add_9ea2d : List (Nat × Sem) := [(0, k_ldA 1 0),
  (1, k_dup 2),
  (2, k_gI 5 3 0),
  (5, k_push 6 (.int 1)),
  (6, k_bI 7 (fun x y => x + y)),
  (7, k_pI 10 3 0 0),
  (10, k_ldA 11 0),
  (11, k_ldA 12 1),
  (12, k_ldA 13 0),
  (13, k_gR 16 3 1),
  (16, k_ldA 17 0),
  (17, k_gI 20 3 2),
  (20, k_callV 23 4 3 2 256 2 256 wJx4a65c_add_72be8),
  (23, k_push 24 (.int 1)),
  (24, k_retI 3 2 256)]
theorem mJx4a65c_add_9ea2d : AllM kJx4a65c_add_9ea2d := ⟨mono_ldA _ _, mono_dup _, mono_gI _ _ _, mono_push _ _, mono_bI _ _, mono_pI _ _ _ _, mono_ldA _ _, mono_ldA _ _, mono_ldA _ _, mono_gR _ _ _, mono_ldA _ _, mono_gI _ _ _, mono_callV _ _ _ _ _ _ _ _ nJx4a65c_add_72be8, mono_push _ _, mono_retI _ _ _, trivial⟩
theorem sJx4a65c_add_9ea2d : AllS yJx4a65c_add_9ea2d cJx4a65c_add_9ea2d 2 (some .boolean) rJx4a65c_add_9ea2d kJx4a65c_add_9ea2d := ⟨fun _ _ _ _ _ _ _ _ _ _ _ _ _ A hr hn hx => o_ldAn A rfl dJx4a65c_add_9ea2d_0,
  fun _ _ _ _ _ _ _ _ _ _ _ _ _ A hr hn hx => o_dup A dJx4a65c_add_9ea2d_1,
  fun _ _ _ _ _ _ _ _ _ _ _ _ _ A hr hn hx => o_gI A (C := RJx4a65c) (T := TJx4a65c) (N := 3) (ci := 3) rfl (by decide) hinJx4a65c rfl 0 (by decide) aw_1145 (fun U x h hx => same_modCount U x h aw_1146 hx) (fun _ _ _ => rfl) dJx4a65c_add_9ea2d_2,
  fun _ _ _ _ _ _ _ _ _ _ _ _ _ A hr hn hx => o_iconst A (by decide) dJx4a65c_add_9ea2d_5,
  fun _ _ _ _ _ _ _ _ _ _ _ _ _ A hr hn hx => o_iadd A dJx4a65c_add_9ea2d_6,
  fun _ _ _ _ _ _ _ _ _ _ _ _ _ A hr hn hx => o_pI A (C := RJx4a65c) (T := TJx4a65c) (N := 3) (ci := 3) rfl (by decide) hinJx4a65c rfl 0 (by decide) tyJx4a65c tyJx4a65c_ok nmJx4a65c aw_1145 (fun U x h hx => same_modCount U x h aw_1146 hx) rfl (t := 0) rfl okv_int (fun _ _ _ _ => rfl) dJx4a65c_add_9ea2d_7,
  fun _ _ _ _ _ _ _ _ _ _ _ _ _ A hr hn hx => o_ldAn A rfl dJx4a65c_add_9ea2d_10,
  fun _ _ _ _ _ _ _ _ _ _ _ _ _ A hr hn hx => o_ldAn A rfl dJx4a65c_add_9ea2d_11,
  fun _ _ _ _ _ _ _ _ _ _ _ _ _ A hr hn hx => o_ldAn A rfl dJx4a65c_add_9ea2d_12,
  fun _ _ _ _ _ _ _ _ _ _ _ _ _ A hr hn hx => o_gR A (C := RJx4a65c) (T := TJx4a65c) (N := 3) (ci := 3) rfl (by decide) hinJx4a65c rfl 1 (by decide) aw_1142 (fun _ _ _ h => h) (fun _ _ _ => rfl) dJx4a65c_add_9ea2d_13,
  fun _ _ _ _ _ _ _ _ _ _ _ _ _ A hr hn hx => o_ldAn A rfl dJx4a65c_add_9ea2d_16,
  fun _ _ _ _ _ _ _ _ _ _ _ _ _ A hr hn hx => o_gI A (C := RJx4a65c) (T := TJx4a65c) (N := 3) (ci := 3) rfl (by decide) hinJx4a65c rfl 2 (by decide) aw_1143 (fun _ _ _ h => h) (fun _ _ _ => rfl) dJx4a65c_add_9ea2d_17,
  fun _ _ _ _ _ _ _ _ _ _ _ _ _ A hr hn hx => o_callV A (rm := rJx4a65c_add_72be8) (C := RJx4a65c) (T := TJx4a65c) (N := 3) (ci := 3) uJx4a65c_add_72be8 aw_1282 rfl rfl (by decide) aw_1279 aw_1281 aw_p29 aw_13 (by decide) (by decide) (Nat.le_refl _) (Nat.le_refl _) (exc_out hx A.2.2.2.2.2.2.1) dJx4a65c_add_9ea2d_20,
  fun _ _ _ _ _ _ _ _ _ _ _ _ _ A hr hn hx => o_iconst A (by decide) dJx4a65c_add_9ea2d_23,
  fun _ _ _ _ _ _ _ _ _ _ _ _ _ A hr hn hx => o_retI A hr okr_bool dJx4a65c_add_9ea2d_24, trivial⟩
def wJx4a65c_add_9ea2d : WT := wT 2 kJx4a65c_add_9ea2d
theorem uJx4a65c_add_9ea2d : UM yJx4a65c_add_9ea2d cJx4a65c_add_9ea2d 2 (some .boolean) rJx4a65c_add_9ea2d wJx4a65c_add_9ea2d := UM.ofT rfl sJx4a65c_add_9ea2d
theorem nJx4a65c_add_9ea2d : ∀ av h (Q Q' : QT), (∀ r h, Q r h → Q' r h) → wJx4a65c_add_9ea2d av h Q → wJx4a65c_add_9ea2d av h Q' := wT_mono mJx4a65c_add_9ea2d
def rJx4a65c_fastRemove_b59b0 : Room := { frames := 1, cells := 0, slots := 0, locals := 60 }
def kJx4a65c_fastRemove_b59b0 : List (Nat × Sem) := [(0, k_ldA 1 0),
  (1, k_dup 2),
  (2, k_gI 5 3 0),
  (5, k_push 6 (.int 1)),
  (6, k_bI 7 (fun x y => x + y)),
  (7, k_pI 10 3 0 0),
  (10, k_ldA 11 0),
  (11, k_gI 14 3 2),
  (14, k_push 15 (.int 1)),
  (15, k_bI 16 (fun x y => x - y)),
  (16, k_dup 17),
  (17, k_stI 18 3),
  (18, k_ldI 19 2),
  (19, k_ic 22 34 (fun x y => x ≤ y)),
  (22, k_ldA 23 1),
  (23, k_ldI 24 2),
  (24, k_push 25 (.int 1)),
  (25, k_bI 26 (fun x y => x + y)),
  (26, k_ldA 27 1),
  (27, k_ldI 28 2),
  (28, k_ldI 29 3),
  (29, k_ldI 30 2),
  (30, k_bI 31 (fun x y => x - y)),
  (31, k_copyR 34),
  (34, k_ldA 35 1),
  (35, k_ldA 36 0),
  (36, k_ldI 37 3),
  (37, k_dupx1 38),
  (38, k_pI 41 3 2 0),
  (41, k_push 42 (.ref 0)),
  (42, k_sO 43),
  (43, k_retV 0 0)]
theorem mJx4a65c_fastRemove_b59b0 : AllM kJx4a65c_fastRemove_b59b0 := ⟨mono_ldA _ _, mono_dup _, mono_gI _ _ _, mono_push _ _, mono_bI _ _, mono_pI _ _ _ _, mono_ldA _ _, mono_gI _ _ _, mono_push _ _, mono_bI _ _, mono_dup _, mono_stI _ _, mono_ldI _ _, mono_ic _ _ _, mono_ldA _ _, mono_ldI _ _, mono_push _ _, mono_bI _ _, mono_ldA _ _, mono_ldI _ _, mono_ldI _ _, mono_ldI _ _, mono_bI _ _, mono_copyR _, mono_ldA _ _, mono_ldA _ _, mono_ldI _ _, mono_dupx1 _, mono_pI _ _ _ _, mono_push _ _, mono_sO _, mono_retV _ _, trivial⟩
theorem sJx4a65c_fastRemove_b59b0 : AllS yJx4a65c_fastRemove_b59b0 cJx4a65c_fastRemove_b59b0 4 none rJx4a65c_fastRemove_b59b0 kJx4a65c_fastRemove_b59b0 := ⟨fun _ _ _ _ _ _ _ _ _ _ _ _ _ A hr hn hx => o_ldAn A rfl dJx4a65c_fastRemove_b59b0_0,
  fun _ _ _ _ _ _ _ _ _ _ _ _ _ A hr hn hx => o_dup A dJx4a65c_fastRemove_b59b0_1,
  fun _ _ _ _ _ _ _ _ _ _ _ _ _ A hr hn hx => o_gI A (C := RJx4a65c) (T := TJx4a65c) (N := 3) (ci := 3) rfl (by decide) hinJx4a65c rfl 0 (by decide) aw_1145 (fun U x h hx => same_modCount U x h aw_1146 hx) (fun _ _ _ => rfl) dJx4a65c_fastRemove_b59b0_2,
  fun _ _ _ _ _ _ _ _ _ _ _ _ _ A hr hn hx => o_iconst A (by decide) dJx4a65c_fastRemove_b59b0_5,
  fun _ _ _ _ _ _ _ _ _ _ _ _ _ A hr hn hx => o_iadd A dJx4a65c_fastRemove_b59b0_6,
  fun _ _ _ _ _ _ _ _ _ _ _ _ _ A hr hn hx => o_pI A (C := RJx4a65c) (T := TJx4a65c) (N := 3) (ci := 3) rfl (by decide) hinJx4a65c rfl 0 (by decide) tyJx4a65c tyJx4a65c_ok nmJx4a65c aw_1145 (fun U x h hx => same_modCount U x h aw_1146 hx) rfl (t := 0) rfl okv_int (fun _ _ _ _ => rfl) dJx4a65c_fastRemove_b59b0_7,
  fun _ _ _ _ _ _ _ _ _ _ _ _ _ A hr hn hx => o_ldAn A rfl dJx4a65c_fastRemove_b59b0_10,
  fun _ _ _ _ _ _ _ _ _ _ _ _ _ A hr hn hx => o_gI A (C := RJx4a65c) (T := TJx4a65c) (N := 3) (ci := 3) rfl (by decide) hinJx4a65c rfl 2 (by decide) aw_1143 (fun _ _ _ h => h) (fun _ _ _ => rfl) dJx4a65c_fastRemove_b59b0_11,
  fun _ _ _ _ _ _ _ _ _ _ _ _ _ A hr hn hx => o_iconst A (by decide) dJx4a65c_fastRemove_b59b0_14,
  fun _ _ _ _ _ _ _ _ _ _ _ _ _ A hr hn hx => o_isub A dJx4a65c_fastRemove_b59b0_15,
  fun _ _ _ _ _ _ _ _ _ _ _ _ _ A hr hn hx => o_dup A dJx4a65c_fastRemove_b59b0_16,
  fun _ _ _ _ _ _ _ _ _ _ _ _ _ A hr hn hx => o_stIn A rfl (by decide) dJx4a65c_fastRemove_b59b0_17,
  fun _ _ _ _ _ _ _ _ _ _ _ _ _ A hr hn hx => o_ldIn A rfl dJx4a65c_fastRemove_b59b0_18,
  fun _ _ _ _ _ _ _ _ _ _ _ _ _ A hr hn hx => o_ic_le A (t := 34) (by decide) dJx4a65c_fastRemove_b59b0_19,
  fun _ _ _ _ _ _ _ _ _ _ _ _ _ A hr hn hx => o_ldAn A rfl dJx4a65c_fastRemove_b59b0_22,
  fun _ _ _ _ _ _ _ _ _ _ _ _ _ A hr hn hx => o_ldIn A rfl dJx4a65c_fastRemove_b59b0_23,
  fun _ _ _ _ _ _ _ _ _ _ _ _ _ A hr hn hx => o_iconst A (by decide) dJx4a65c_fastRemove_b59b0_24,
  fun _ _ _ _ _ _ _ _ _ _ _ _ _ A hr hn hx => o_iadd A dJx4a65c_fastRemove_b59b0_25,
  fun _ _ _ _ _ _ _ _ _ _ _ _ _ A hr hn hx => o_ldAn A rfl dJx4a65c_fastRemove_b59b0_26,
  fun _ _ _ _ _ _ _ _ _ _ _ _ _ A hr hn hx => o_ldIn A rfl dJx4a65c_fastRemove_b59b0_27,
  fun _ _ _ _ _ _ _ _ _ _ _ _ _ A hr hn hx => o_ldIn A rfl dJx4a65c_fastRemove_b59b0_28,
  fun _ _ _ _ _ _ _ _ _ _ _ _ _ A hr hn hx => o_ldIn A rfl dJx4a65c_fastRemove_b59b0_29,
  fun _ _ _ _ _ _ _ _ _ _ _ _ _ A hr hn hx => o_isub A dJx4a65c_fastRemove_b59b0_30,
  fun _ _ _ _ _ _ _ _ _ _ _ _ _ A hr hn hx => o_copyR A aw_1847 aw_1465 aw_772 aw_771 aw_27 (by decide) (by decide) dJx4a65c_fastRemove_b59b0_31,
  fun _ _ _ _ _ _ _ _ _ _ _ _ _ A hr hn hx => o_ldAn A rfl dJx4a65c_fastRemove_b59b0_34,
  fun _ _ _ _ _ _ _ _ _ _ _ _ _ A hr hn hx => o_ldAn A rfl dJx4a65c_fastRemove_b59b0_35,
  fun _ _ _ _ _ _ _ _ _ _ _ _ _ A hr hn hx => o_ldIn A rfl dJx4a65c_fastRemove_b59b0_36,
  fun _ _ _ _ _ _ _ _ _ _ _ _ _ A hr hn hx => o_dupx1 A dJx4a65c_fastRemove_b59b0_37,
  fun _ _ _ _ _ _ _ _ _ _ _ _ _ A hr hn hx => o_pI A (C := RJx4a65c) (T := TJx4a65c) (N := 3) (ci := 3) rfl (by decide) hinJx4a65c rfl 2 (by decide) tyJx4a65c tyJx4a65c_ok nmJx4a65c aw_1143 (fun _ _ _ h => h) rfl (t := 0) rfl okv_int (fun _ _ _ _ => rfl) dJx4a65c_fastRemove_b59b0_38,
  fun _ _ _ _ _ _ _ _ _ _ _ _ _ A hr hn hx => o_null A dJx4a65c_fastRemove_b59b0_41,
  fun _ _ _ _ _ _ _ _ _ _ _ _ _ A hr hn hx => o_sO A aw_1847 aw_1863 dJx4a65c_fastRemove_b59b0_42,
  fun _ _ _ _ _ _ _ _ _ _ _ _ _ A hr hn hx => o_retV A hr dJx4a65c_fastRemove_b59b0_43, trivial⟩
def wJx4a65c_fastRemove_b59b0 : WT := wT 4 kJx4a65c_fastRemove_b59b0
theorem uJx4a65c_fastRemove_b59b0 : UM yJx4a65c_fastRemove_b59b0 cJx4a65c_fastRemove_b59b0 4 none rJx4a65c_fastRemove_b59b0 wJx4a65c_fastRemove_b59b0 := UM.ofT rfl sJx4a65c_fastRemove_b59b0
theorem nJx4a65c_fastRemove_b59b0 : ∀ av h (Q Q' : QT), (∀ r h, Q r h → Q' r h) → wJx4a65c_fastRemove_b59b0 av h Q → wJx4a65c_fastRemove_b59b0 av h Q' := wT_mono mJx4a65c_fastRemove_b59b0
def rJx4a65c_remove_915e3 : Room := { frames := 2, cells := 0, slots := 0, locals := 83 }
def kJx4a65c_remove_915e3 : List (Nat × Sem) := [(0, k_ldI 1 1),
  (1, k_ldA 2 0),
  (2, k_gI 5 3 2),
  (5, k_call 8 2 0 0 0 0 wJ15_checkIndex_7cf53),
  (8, k_pop 9),
  (9, k_ldA 10 0),
  (10, k_gR 13 3 1),
  (13, k_stA 14 2),
  (14, k_ldA 15 2),
  (15, k_ldI 16 1),
  (16, k_aR 17 108),
  (17, k_stA 18 3),
  (18, k_ldA 19 0),
  (19, k_ldA 20 2),
  (20, k_ldI 21 1),
  (21, k_callV 24 3 3 0 0 0 0 wJx4a65c_fastRemove_b59b0),
  (24, k_ldA 25 3),
  (25, k_retA 0 0)]
theorem mJx4a65c_remove_915e3 : AllM kJx4a65c_remove_915e3 := ⟨mono_ldI _ _, mono_ldA _ _, mono_gI _ _ _, mono_call _ _ _ _ _ _ _ nJ15_checkIndex_7cf53, mono_pop _, mono_ldA _ _, mono_gR _ _ _, mono_stA _ _, mono_ldA _ _, mono_ldI _ _, mono_aR _ _, mono_stA _ _, mono_ldA _ _, mono_ldA _ _, mono_ldI _ _, mono_callV _ _ _ _ _ _ _ _ nJx4a65c_fastRemove_b59b0, mono_ldA _ _, mono_retA _ _, trivial⟩
theorem sJx4a65c_remove_915e3 : AllS yJx4a65c_remove_915e3 cJx4a65c_remove_915e3 4 (some (.object "java/lang/Object")) rJx4a65c_remove_915e3 kJx4a65c_remove_915e3 := ⟨fun _ _ _ _ _ _ _ _ _ _ _ _ _ A hr hn hx => o_ldIn A rfl dJx4a65c_remove_915e3_0,
  fun _ _ _ _ _ _ _ _ _ _ _ _ _ A hr hn hx => o_ldAn A rfl dJx4a65c_remove_915e3_1,
  fun _ _ _ _ _ _ _ _ _ _ _ _ _ A hr hn hx => o_gI A (C := RJx4a65c) (T := TJx4a65c) (N := 3) (ci := 3) rfl (by decide) hinJx4a65c rfl 2 (by decide) aw_1143 (fun _ _ _ h => h) (fun _ _ _ => rfl) dJx4a65c_remove_915e3_2,
  fun _ _ _ _ _ _ _ _ _ _ _ _ _ A hr hn hx => o_callSx A (rm := rJ15_checkIndex_7cf53) uJ15_checkIndex_7cf53 aw_1420 aw_1418 aw_1419 aw_30 (by decide) (by decide) (Nat.le_refl _) (Nat.le_refl _) (exc_out hx A.2.2.2.2.2.2.1) dJx4a65c_remove_915e3_5,
  fun _ _ _ _ _ _ _ _ _ _ _ _ _ A hr hn hx => o_pop A dJx4a65c_remove_915e3_8,
  fun _ _ _ _ _ _ _ _ _ _ _ _ _ A hr hn hx => o_ldAn A rfl dJx4a65c_remove_915e3_9,
  fun _ _ _ _ _ _ _ _ _ _ _ _ _ A hr hn hx => o_gR A (C := RJx4a65c) (T := TJx4a65c) (N := 3) (ci := 3) rfl (by decide) hinJx4a65c rfl 1 (by decide) aw_1142 (fun _ _ _ h => h) (fun _ _ _ => rfl) dJx4a65c_remove_915e3_10,
  fun _ _ _ _ _ _ _ _ _ _ _ _ _ A hr hn hx => o_stAn A rfl (by decide) dJx4a65c_remove_915e3_13,
  fun _ _ _ _ _ _ _ _ _ _ _ _ _ A hr hn hx => o_ldAn A rfl dJx4a65c_remove_915e3_14,
  fun _ _ _ _ _ _ _ _ _ _ _ _ _ A hr hn hx => o_ldIn A rfl dJx4a65c_remove_915e3_15,
  fun _ _ _ _ _ _ _ _ _ _ _ _ _ A hr hn hx => o_ald108 A dJx4a65c_remove_915e3_16,
  fun _ _ _ _ _ _ _ _ _ _ _ _ _ A hr hn hx => o_stAn A rfl (by decide) dJx4a65c_remove_915e3_17,
  fun _ _ _ _ _ _ _ _ _ _ _ _ _ A hr hn hx => o_ldAn A rfl dJx4a65c_remove_915e3_18,
  fun _ _ _ _ _ _ _ _ _ _ _ _ _ A hr hn hx => o_ldAn A rfl dJx4a65c_remove_915e3_19,
  fun _ _ _ _ _ _ _ _ _ _ _ _ _ A hr hn hx => o_ldIn A rfl dJx4a65c_remove_915e3_20,
  fun _ _ _ _ _ _ _ _ _ _ _ _ _ A hr hn hx => o_callV A (rm := rJx4a65c_fastRemove_b59b0) (C := RJx4a65c) (T := TJx4a65c) (N := 3) (ci := 3) uJx4a65c_fastRemove_b59b0 aw_1464 rfl rfl (by decide) aw_1461 aw_1463 aw_p46 aw_13 (by decide) (by decide) (Nat.le_refl _) (Nat.le_refl _) (exc_out hx A.2.2.2.2.2.2.1) dJx4a65c_remove_915e3_21,
  fun _ _ _ _ _ _ _ _ _ _ _ _ _ A hr hn hx => o_ldAn A rfl dJx4a65c_remove_915e3_24,
  fun _ _ _ _ _ _ _ _ _ _ _ _ _ A hr hn hx => o_retA A hr (Or.inl ⟨_, rfl⟩) dJx4a65c_remove_915e3_25, trivial⟩
def wJx4a65c_remove_915e3 : WT := wT 4 kJx4a65c_remove_915e3
theorem uJx4a65c_remove_915e3 : UM yJx4a65c_remove_915e3 cJx4a65c_remove_915e3 4 (some (.object "java/lang/Object")) rJx4a65c_remove_915e3 wJx4a65c_remove_915e3 := UM.ofT rfl sJx4a65c_remove_915e3
theorem nJx4a65c_remove_915e3 : ∀ av h (Q Q' : QT), (∀ r h, Q r h → Q' r h) → wJx4a65c_remove_915e3 av h Q → wJx4a65c_remove_915e3 av h Q' := wT_mono mJx4a65c_remove_915e3
def rJ6_valueOf_2dffe : Room := { frames := 0, cells := 0, slots := 0, locals := 0 }
def kJ6_valueOf_2dffe : List (Nat × Sem) := [(0, k_ldI 1 0),
  (1, k_push 3 (.int (-128))),
  (3, k_ic 6 23 (fun x y => x < y)),
  (6, k_ldI 7 0),
  (7, k_push 10 (.int 127)),
  (10, k_ic 13 23 (fun x y => y < x)),
  (13, k_push 16 (.ref 262)),
  (16, k_ldI 17 0),
  (17, k_push 20 (.int 128)),
  (20, k_bI 21 (fun x y => x + y)),
  (21, k_aBox 22),
  (22, k_retA 0 0),
  (26, k_dup 27),
  (27, k_ldI 28 0),
  (31, k_retA 0 0)]
theorem mJ6_valueOf_2dffe : AllM kJ6_valueOf_2dffe := ⟨mono_ldI _ _, mono_push _ _, mono_ic _ _ _, mono_ldI _ _, mono_push _ _, mono_ic _ _ _, mono_push _ _, mono_ldI _ _, mono_push _ _, mono_bI _ _, mono_aBox _, mono_retA _ _, mono_dup _, mono_ldI _ _, mono_retA _ _, trivial⟩
theorem sJ6_valueOf_2dffe : AllS yJ6_valueOf_2dffe cJ6_valueOf_2dffe 1 (some (.object "java/lang/Integer")) rJ6_valueOf_2dffe kJ6_valueOf_2dffe := ⟨fun _ _ _ _ _ _ _ _ _ _ _ _ _ A hr hn hx => o_ldIn A rfl dJ6_valueOf_2dffe_0,
  fun _ _ _ _ _ _ _ _ _ _ _ _ _ A hr hn hx => o_bipush A (by decide) dJ6_valueOf_2dffe_1,
  fun _ _ _ _ _ _ _ _ _ _ _ _ _ A hr hn hx => o_ic_lt A (t := 23) (by decide) dJ6_valueOf_2dffe_3,
  fun _ _ _ _ _ _ _ _ _ _ _ _ _ A hr hn hx => o_ldIn A rfl dJ6_valueOf_2dffe_6,
  fun _ _ _ _ _ _ _ _ _ _ _ _ _ A hr hn hx => o_gsI A A.gex.2.1 aw_1258 (fun _ h => h) dJ6_valueOf_2dffe_7,
  fun _ _ _ _ _ _ _ _ _ _ _ _ _ A hr hn hx => o_ic_gt A (t := 23) (by decide) dJ6_valueOf_2dffe_10,
  fun _ _ _ _ _ _ _ _ _ _ _ _ _ A hr hn hx => o_gsR A (by decide) (by decide) A.gex.2.2.1 aw_1260 (fun _ h => h) dJ6_valueOf_2dffe_13,
  fun _ _ _ _ _ _ _ _ _ _ _ _ _ A hr hn hx => o_ldIn A rfl dJ6_valueOf_2dffe_16,
  fun _ _ _ _ _ _ _ _ _ _ _ _ _ A hr hn hx => o_sipush A (by decide) dJ6_valueOf_2dffe_17,
  fun _ _ _ _ _ _ _ _ _ _ _ _ _ A hr hn hx => o_iadd A dJ6_valueOf_2dffe_20,
  fun _ _ _ _ _ _ _ _ _ _ _ _ _ A hr hn hx => o_aBox A dJ6_valueOf_2dffe_21,
  fun _ _ _ _ _ _ _ _ _ _ _ _ _ A hr hn hx => o_retA A hr (Or.inl ⟨_, rfl⟩) dJ6_valueOf_2dffe_22,
  fun _ _ _ _ _ _ _ _ _ _ _ _ _ A hr hn hx => o_dup A dJ6_valueOf_2dffe_26,
  fun _ _ _ _ _ _ _ _ _ _ _ _ _ A hr hn hx => o_ldIn A rfl dJ6_valueOf_2dffe_27,
  fun _ _ _ _ _ _ _ _ _ _ _ _ _ A hr hn hx => o_retA A hr (Or.inl ⟨_, rfl⟩) dJ6_valueOf_2dffe_31, trivial⟩
def wJ6_valueOf_2dffe : WT := wT 1 kJ6_valueOf_2dffe
theorem uJ6_valueOf_2dffe : UM yJ6_valueOf_2dffe cJ6_valueOf_2dffe 1 (some (.object "java/lang/Integer")) rJ6_valueOf_2dffe wJ6_valueOf_2dffe := UM.ofT rfl sJ6_valueOf_2dffe
theorem nJ6_valueOf_2dffe : ∀ av h (Q Q' : QT), (∀ r h, Q r h → Q' r h) → wJ6_valueOf_2dffe av h Q → wJ6_valueOf_2dffe av h Q' := wT_mono mJ6_valueOf_2dffe
def rJ6_intValue_8abf5 : Room := { frames := 0, cells := 0, slots := 0, locals := 0 }
def kJ6_intValue_8abf5 : List (Nat × Sem) := [(0, k_ldA 1 0),
  (1, k_gBox 4),
  (4, k_retI 0 0 0)]
theorem mJ6_intValue_8abf5 : AllM kJ6_intValue_8abf5 := ⟨mono_ldA _ _, mono_gBox _, mono_retI _ _ _, trivial⟩
theorem sJ6_intValue_8abf5 : AllS yJ6_intValue_8abf5 cJ6_intValue_8abf5 1 (some .int) rJ6_intValue_8abf5 kJ6_intValue_8abf5 := ⟨fun _ _ _ _ _ _ _ _ _ _ _ _ _ A hr hn hx => o_ldAn A rfl dJ6_intValue_8abf5_0,
  fun _ _ _ _ _ _ _ _ _ _ _ _ _ A hr hn hx => o_gBox A aw_1271 (fun _ h => h) dJ6_intValue_8abf5_1,
  fun _ _ _ _ _ _ _ _ _ _ _ _ _ A hr hn hx => o_retI A hr okr_int dJ6_intValue_8abf5_4, trivial⟩
def wJ6_intValue_8abf5 : WT := wT 1 kJ6_intValue_8abf5
theorem uJ6_intValue_8abf5 : UM yJ6_intValue_8abf5 cJ6_intValue_8abf5 1 (some .int) rJ6_intValue_8abf5 wJ6_intValue_8abf5 := UM.ofT rfl sJ6_intValue_8abf5
theorem nJ6_intValue_8abf5 : ∀ av h (Q Q' : QT), (∀ r h, Q r h → Q' r h) → wJ6_intValue_8abf5 av h Q → wJ6_intValue_8abf5 av h Q' := wT_mono mJ6_intValue_8abf5
def rJxf58ca_isNaN_12338 : Room := { frames := 0, cells := 0, slots := 0, locals := 0 }
def kJxf58ca_isNaN_12338 : List (Nat × Sem) := [(0, k_ldF 1 0),
  (1, k_ldF 2 0),
  (2, k_fcmp 3 .l),
  (3, k_if 6 10 (fun x => x = 0)),
  (6, k_push 7 (.int 1)),
  (7, k_goto 11),
  (10, k_push 11 (.int 0)),
  (11, k_retI 3 0 0)]
theorem mJxf58ca_isNaN_12338 : AllM kJxf58ca_isNaN_12338 := ⟨mono_ldF _ _, mono_ldF _ _, mono_fcmp _ _, mono_if _ _ _, mono_push _ _, mono_goto _, mono_push _ _, mono_retI _ _ _, trivial⟩
theorem sJxf58ca_isNaN_12338 : AllS yJxf58ca_isNaN_12338 cJxf58ca_isNaN_12338 1 (some .boolean) rJxf58ca_isNaN_12338 kJxf58ca_isNaN_12338 := ⟨fun _ _ _ _ _ _ _ _ _ _ _ _ _ A hr hn hx => o_ldFn A rfl dJxf58ca_isNaN_12338_0,
  fun _ _ _ _ _ _ _ _ _ _ _ _ _ A hr hn hx => o_ldFn A rfl dJxf58ca_isNaN_12338_1,
  fun _ _ _ _ _ _ _ _ _ _ _ _ _ A hr hn hx => o_fcmp A dJxf58ca_isNaN_12338_2,
  fun _ _ _ _ _ _ _ _ _ _ _ _ _ A hr hn hx => o_if_eq A (t := 10) (by decide) dJxf58ca_isNaN_12338_3,
  fun _ _ _ _ _ _ _ _ _ _ _ _ _ A hr hn hx => o_iconst A (by decide) dJxf58ca_isNaN_12338_6,
  fun _ _ _ _ _ _ _ _ _ _ _ _ _ A hr hn hx => o_goto A (t := 11) (by decide) dJxf58ca_isNaN_12338_7,
  fun _ _ _ _ _ _ _ _ _ _ _ _ _ A hr hn hx => o_iconst A (by decide) dJxf58ca_isNaN_12338_10,
  fun _ _ _ _ _ _ _ _ _ _ _ _ _ A hr hn hx => o_retI A hr okr_bool dJxf58ca_isNaN_12338_11, trivial⟩
def wJxf58ca_isNaN_12338 : WT := wT 1 kJxf58ca_isNaN_12338
theorem uJxf58ca_isNaN_12338 : UM yJxf58ca_isNaN_12338 cJxf58ca_isNaN_12338 1 (some .boolean) rJxf58ca_isNaN_12338 wJxf58ca_isNaN_12338 := UM.ofTF (by decide +kernel) sJxf58ca_isNaN_12338
theorem nJxf58ca_isNaN_12338 : ∀ av h (Q Q' : QT), (∀ r h, Q r h → Q' r h) → wJxf58ca_isNaN_12338 av h Q → wJxf58ca_isNaN_12338 av h Q' := wT_mono mJxf58ca_isNaN_12338
def rJxf58ca_floatToIntBits_5c35a : Room := { frames := 1, cells := 0, slots := 0, locals := 23 }
def kJxf58ca_floatToIntBits_5c35a : List (Nat × Sem) := [(0, k_ldF 1 0),
  (1, k_call 4 1 0 0 0 0 wJxf58ca_isNaN_12338),
  (4, k_if 12 7 (fun x => x = 0)),
  (7, k_ldF 8 0),
  (8, k_bits 11),
  (11, k_retI 0 0 0),
  (12, k_push 14 (.int 2143289344)),
  (14, k_retI 0 0 0)]
theorem mJxf58ca_floatToIntBits_5c35a : AllM kJxf58ca_floatToIntBits_5c35a := ⟨mono_ldF _ _, mono_call _ _ _ _ _ _ _ nJxf58ca_isNaN_12338, mono_if _ _ _, mono_ldF _ _, mono_bits _, mono_retI _ _ _, mono_push _ _, mono_retI _ _ _, trivial⟩
theorem sJxf58ca_floatToIntBits_5c35a : AllS yJxf58ca_floatToIntBits_5c35a cJxf58ca_floatToIntBits_5c35a 1 (some .int) rJxf58ca_floatToIntBits_5c35a kJxf58ca_floatToIntBits_5c35a := ⟨fun _ _ _ _ _ _ _ _ _ _ _ _ _ A hr hn hx => o_ldFn A rfl dJxf58ca_floatToIntBits_5c35a_0,
  fun _ _ _ _ _ _ _ _ _ _ _ _ _ A hr hn hx => o_callS A (rm := rJxf58ca_isNaN_12338) uJxf58ca_isNaN_12338 aw_1821 rfl aw_1819 aw_1820 aw_40 (by decide) (by decide) (Nat.le_refl _) (Nat.le_refl _) (exc_out hx A.2.2.2.2.2.2.1) dJxf58ca_floatToIntBits_5c35a_1,
  fun _ _ _ _ _ _ _ _ _ _ _ _ _ A hr hn hx => o_if_ne A (t := 12) (by decide) dJxf58ca_floatToIntBits_5c35a_4,
  fun _ _ _ _ _ _ _ _ _ _ _ _ _ A hr hn hx => o_ldFn A rfl dJxf58ca_floatToIntBits_5c35a_7,
  fun _ _ _ _ _ _ _ _ _ _ _ _ _ A hr hn hx => o_bits A aw_1822 aw_1824 aw_1823 aw_40 (by decide) (by decide) dJxf58ca_floatToIntBits_5c35a_8,
  fun _ _ _ _ _ _ _ _ _ _ _ _ _ A hr hn hx => o_retI A hr okr_int dJxf58ca_floatToIntBits_5c35a_11,
  fun _ _ _ _ _ _ _ _ _ _ _ _ _ A hr hn hx => o_ldc A aw_1825 dJxf58ca_floatToIntBits_5c35a_12,
  fun _ _ _ _ _ _ _ _ _ _ _ _ _ A hr hn hx => o_retI A hr okr_int dJxf58ca_floatToIntBits_5c35a_14, trivial⟩
def wJxf58ca_floatToIntBits_5c35a : WT := wT 1 kJxf58ca_floatToIntBits_5c35a
theorem uJxf58ca_floatToIntBits_5c35a : UM yJxf58ca_floatToIntBits_5c35a cJxf58ca_floatToIntBits_5c35a 1 (some .int) rJxf58ca_floatToIntBits_5c35a wJxf58ca_floatToIntBits_5c35a := UM.ofTF (by decide +kernel) sJxf58ca_floatToIntBits_5c35a
theorem nJxf58ca_floatToIntBits_5c35a : ∀ av h (Q Q' : QT), (∀ r h, Q r h → Q' r h) → wJxf58ca_floatToIntBits_5c35a av h Q → wJxf58ca_floatToIntBits_5c35a av h Q' := wT_mono mJxf58ca_floatToIntBits_5c35a
def rJ0_isLatin1_aae02 : Room := { frames := 0, cells := 0, slots := 0, locals := 0 }
def kJ0_isLatin1_aae02 : List (Nat × Sem) := [(0, k_push 3 (.int 1)),
  (3, k_if 6 17 (fun x => x = 0)),
  (6, k_ldA 7 0),
  (7, k_gTx 10 (.int 0)),
  (10, k_if 17 13 (fun x => x = 0)),
  (13, k_push 14 (.int 1)),
  (14, k_goto 18),
  (17, k_push 18 (.int 0)),
  (18, k_retI 3 0 0)]
theorem mJ0_isLatin1_aae02 : AllM kJ0_isLatin1_aae02 := ⟨mono_push _ _, mono_if _ _ _, mono_ldA _ _, mono_gTx _ _, mono_if _ _ _, mono_push _ _, mono_goto _, mono_push _ _, mono_retI _ _ _, trivial⟩
theorem sJ0_isLatin1_aae02 : AllS yJ0_isLatin1_aae02 cJ0_isLatin1_aae02 1 (some .boolean) rJ0_isLatin1_aae02 kJ0_isLatin1_aae02 := ⟨fun _ _ _ _ _ _ _ _ _ _ _ _ _ A hr hn hx => o_gsI A A.gex.2.2.2.2.2.2.2.2.2.1 aw_1725 (fun _ h => h) dJ0_isLatin1_aae02_0,
  fun _ _ _ _ _ _ _ _ _ _ _ _ _ A hr hn hx => o_if_eq A (t := 17) (by decide) dJ0_isLatin1_aae02_3,
  fun _ _ _ _ _ _ _ _ _ _ _ _ _ A hr hn hx => o_ldAn A rfl dJ0_isLatin1_aae02_6,
  fun _ _ _ _ _ _ _ _ _ _ _ _ _ A hr hn hx => o_gTxC A aw_1880 (fun _ h => h) dJ0_isLatin1_aae02_7,
  fun _ _ _ _ _ _ _ _ _ _ _ _ _ A hr hn hx => o_if_ne A (t := 17) (by decide) dJ0_isLatin1_aae02_10,
  fun _ _ _ _ _ _ _ _ _ _ _ _ _ A hr hn hx => o_iconst A (by decide) dJ0_isLatin1_aae02_13,
  fun _ _ _ _ _ _ _ _ _ _ _ _ _ A hr hn hx => o_goto A (t := 18) (by decide) dJ0_isLatin1_aae02_14,
  fun _ _ _ _ _ _ _ _ _ _ _ _ _ A hr hn hx => o_iconst A (by decide) dJ0_isLatin1_aae02_17,
  fun _ _ _ _ _ _ _ _ _ _ _ _ _ A hr hn hx => o_retI A hr okr_bool dJ0_isLatin1_aae02_18, trivial⟩
def wJ0_isLatin1_aae02 : WT := wT 1 kJ0_isLatin1_aae02
theorem uJ0_isLatin1_aae02 : UM yJ0_isLatin1_aae02 cJ0_isLatin1_aae02 1 (some .boolean) rJ0_isLatin1_aae02 wJ0_isLatin1_aae02 := UM.ofT rfl sJ0_isLatin1_aae02
theorem nJ0_isLatin1_aae02 : ∀ av h (Q Q' : QT), (∀ r h, Q r h → Q' r h) → wJ0_isLatin1_aae02 av h Q → wJ0_isLatin1_aae02 av h Q' := wT_mono mJ0_isLatin1_aae02
def rJ0_coder_7d493 : Room := { frames := 0, cells := 0, slots := 0, locals := 0 }
def kJ0_coder_7d493 : List (Nat × Sem) := [(0, k_push 3 (.int 1)),
  (3, k_if 6 13 (fun x => x = 0)),
  (6, k_ldA 7 0),
  (7, k_gTx 10 (.int 0)),
  (10, k_goto 14),
  (13, k_push 14 (.int 1)),
  (14, k_retI 3 0 0)]
theorem mJ0_coder_7d493 : AllM kJ0_coder_7d493 := ⟨mono_push _ _, mono_if _ _ _, mono_ldA _ _, mono_gTx _ _, mono_goto _, mono_push _ _, mono_retI _ _ _, trivial⟩
theorem sJ0_coder_7d493 : AllS yJ0_coder_7d493 cJ0_coder_7d493 1 (some .byte) rJ0_coder_7d493 kJ0_coder_7d493 := ⟨fun _ _ _ _ _ _ _ _ _ _ _ _ _ A hr hn hx => o_gsI A A.gex.2.2.2.2.2.2.2.2.2.1 aw_1725 (fun _ h => h) dJ0_coder_7d493_0,
  fun _ _ _ _ _ _ _ _ _ _ _ _ _ A hr hn hx => o_if_eq A (t := 13) (by decide) dJ0_coder_7d493_3,
  fun _ _ _ _ _ _ _ _ _ _ _ _ _ A hr hn hx => o_ldAn A rfl dJ0_coder_7d493_6,
  fun _ _ _ _ _ _ _ _ _ _ _ _ _ A hr hn hx => o_gTxC A aw_1880 (fun _ h => h) dJ0_coder_7d493_7,
  fun _ _ _ _ _ _ _ _ _ _ _ _ _ A hr hn hx => o_goto A (t := 14) (by decide) dJ0_coder_7d493_10,
  fun _ _ _ _ _ _ _ _ _ _ _ _ _ A hr hn hx => o_iconst A (by decide) dJ0_coder_7d493_13,
  fun _ _ _ _ _ _ _ _ _ _ _ _ _ A hr hn hx => o_retI A hr okr_byte dJ0_coder_7d493_14, trivial⟩
def wJ0_coder_7d493 : WT := wT 1 kJ0_coder_7d493
theorem uJ0_coder_7d493 : UM yJ0_coder_7d493 cJ0_coder_7d493 1 (some .byte) rJ0_coder_7d493 wJ0_coder_7d493 := UM.ofT rfl sJ0_coder_7d493
theorem nJ0_coder_7d493 : ∀ av h (Q Q' : QT), (∀ r h, Q r h → Q' r h) → wJ0_coder_7d493 av h Q → wJ0_coder_7d493 av h Q' := wT_mono mJ0_coder_7d493
def rJ0_length_8abf5 : Room := { frames := 1, cells := 0, slots := 0, locals := 20 }
def kJ0_length_8abf5 : List (Nat × Sem) := [(0, k_ldA 1 0),
  (1, k_gTx 4 (.ref 261)),
  (4, k_alenX 5 261 4),
  (5, k_ldA 6 0),
  (6, k_callO 9 1 isTxt 0 0 0 0 wJ0_coder_7d493),
  (9, k_bI 10 (fun x y => x >>> (y &&& 31))),
  (10, k_retI 0 0 0)]
theorem mJ0_length_8abf5 : AllM kJ0_length_8abf5 := ⟨mono_ldA _ _, mono_gTx _ _, mono_alenX _ _ _, mono_ldA _ _, mono_callO _ _ _ _ _ _ _ _ nJ0_coder_7d493, mono_bI _ _, mono_retI _ _ _, trivial⟩
theorem sJ0_length_8abf5 : AllS yJ0_length_8abf5 cJ0_length_8abf5 1 (some .int) rJ0_length_8abf5 kJ0_length_8abf5 := ⟨fun _ _ _ _ _ _ _ _ _ _ _ _ _ A hr hn hx => o_ldAn A rfl dJ0_length_8abf5_0,
  fun _ _ _ _ _ _ _ _ _ _ _ _ _ A hr hn hx => o_gTxV A aw_1881 (fun _ h => h) dJ0_length_8abf5_1,
  fun _ _ _ _ _ _ _ _ _ _ _ _ _ A hr hn hx => o_alenX A (by decide) (by decide) (A.gex.2.2.2.2.2.2.2.2.2.2.1.1 0 (by decide)).2.2.2 dJ0_length_8abf5_4,
  fun _ _ _ _ _ _ _ _ _ _ _ _ _ A hr hn hx => o_ldAn A rfl dJ0_length_8abf5_5,
  fun _ _ _ _ _ _ _ _ _ _ _ _ _ A hr hn hx => o_callO A (rm := rJ0_coder_7d493) (txtP A) uJ0_coder_7d493 aw_1734 rfl aw_1731 aw_1732 aw_1733 aw_19 (by decide) (by decide) (Nat.le_refl _) (Nat.le_refl _) (exc_out hx A.2.2.2.2.2.2.1) dJ0_length_8abf5_6,
  fun _ _ _ _ _ _ _ _ _ _ _ _ _ A hr hn hx => o_ishr A dJ0_length_8abf5_9,
  fun _ _ _ _ _ _ _ _ _ _ _ _ _ A hr hn hx => o_retI A hr okr_int dJ0_length_8abf5_10, trivial⟩
def wJ0_length_8abf5 : WT := wT 1 kJ0_length_8abf5
theorem uJ0_length_8abf5 : UM yJ0_length_8abf5 cJ0_length_8abf5 1 (some .int) rJ0_length_8abf5 wJ0_length_8abf5 := UM.ofT rfl sJ0_length_8abf5
theorem nJ0_length_8abf5 : ∀ av h (Q Q' : QT), (∀ r h, Q r h → Q' r h) → wJ0_length_8abf5 av h Q → wJ0_length_8abf5 av h Q' := wT_mono mJ0_length_8abf5
def rJ1_canEncode_9a6ad : Room := { frames := 0, cells := 0, slots := 0, locals := 0 }
def kJ1_canEncode_9a6ad : List (Nat × Sem) := [(0, k_ldI 1 0),
  (1, k_if 4 15 (fun x => x < 0)),
  (4, k_ldI 5 0),
  (5, k_push 8 (.int 255)),
  (8, k_ic 11 15 (fun x y => y < x)),
  (11, k_push 12 (.int 1)),
  (12, k_goto 16),
  (15, k_push 16 (.int 0)),
  (16, k_retI 3 0 0)]
theorem mJ1_canEncode_9a6ad : AllM kJ1_canEncode_9a6ad := ⟨mono_ldI _ _, mono_if _ _ _, mono_ldI _ _, mono_push _ _, mono_ic _ _ _, mono_push _ _, mono_goto _, mono_push _ _, mono_retI _ _ _, trivial⟩
theorem sJ1_canEncode_9a6ad : AllS yJ1_canEncode_9a6ad cJ1_canEncode_9a6ad 1 (some .boolean) rJ1_canEncode_9a6ad kJ1_canEncode_9a6ad := ⟨fun _ _ _ _ _ _ _ _ _ _ _ _ _ A hr hn hx => o_ldIn A rfl dJ1_canEncode_9a6ad_0,
  fun _ _ _ _ _ _ _ _ _ _ _ _ _ A hr hn hx => o_if_lt A (t := 15) (by decide) dJ1_canEncode_9a6ad_1,
  fun _ _ _ _ _ _ _ _ _ _ _ _ _ A hr hn hx => o_ldIn A rfl dJ1_canEncode_9a6ad_4,
  fun _ _ _ _ _ _ _ _ _ _ _ _ _ A hr hn hx => o_sipush A (by decide) dJ1_canEncode_9a6ad_5,
  fun _ _ _ _ _ _ _ _ _ _ _ _ _ A hr hn hx => o_ic_gt A (t := 15) (by decide) dJ1_canEncode_9a6ad_8,
  fun _ _ _ _ _ _ _ _ _ _ _ _ _ A hr hn hx => o_iconst A (by decide) dJ1_canEncode_9a6ad_11,
  fun _ _ _ _ _ _ _ _ _ _ _ _ _ A hr hn hx => o_goto A (t := 16) (by decide) dJ1_canEncode_9a6ad_12,
  fun _ _ _ _ _ _ _ _ _ _ _ _ _ A hr hn hx => o_iconst A (by decide) dJ1_canEncode_9a6ad_15,
  fun _ _ _ _ _ _ _ _ _ _ _ _ _ A hr hn hx => o_retI A hr okr_bool dJ1_canEncode_9a6ad_16, trivial⟩
def wJ1_canEncode_9a6ad : WT := wT 1 kJ1_canEncode_9a6ad
theorem uJ1_canEncode_9a6ad : UM yJ1_canEncode_9a6ad cJ1_canEncode_9a6ad 1 (some .boolean) rJ1_canEncode_9a6ad wJ1_canEncode_9a6ad := UM.ofT rfl sJ1_canEncode_9a6ad
theorem nJ1_canEncode_9a6ad : ∀ av h (Q Q' : QT), (∀ r h, Q r h → Q' r h) → wJ1_canEncode_9a6ad av h Q → wJ1_canEncode_9a6ad av h Q' := wT_mono mJ1_canEncode_9a6ad
def rJ1_indexOfChar_4cfef : Room := { frames := 0, cells := 0, slots := 0, locals := 0 }
def kJ1_indexOfChar_4cfef : List (Nat × Sem) := [(0, k_ldI 1 1),
  (1, k_uI 2 (fun x => .int x.toInt8.toInt32)),
  (2, k_stI 4 4),
  (4, k_ldI 5 2),
  (5, k_stI 7 5),
  (7, k_ldI 9 5),
  (9, k_ldI 10 3),
  (10, k_ic 13 31 (fun x y => y ≤ x)),
  (13, k_ldA 14 0),
  (14, k_ldI 16 5),
  (16, k_aTx 17),
  (17, k_ldI 19 4),
  (19, k_ic 25 22 (fun x y => x = y)),
  (22, k_ldI 24 5),
  (24, k_retI 0 0 0),
  (25, k_iinc 28 5 1),
  (28, k_goto 7),
  (31, k_push 32 (.int (-1))),
  (32, k_retI 0 0 0)]
theorem mJ1_indexOfChar_4cfef : AllM kJ1_indexOfChar_4cfef := ⟨mono_ldI _ _, mono_uI _ _, mono_stI _ _, mono_ldI _ _, mono_stI _ _, mono_ldI _ _, mono_ldI _ _, mono_ic _ _ _, mono_ldA _ _, mono_ldI _ _, mono_aTx _, mono_ldI _ _, mono_ic _ _ _, mono_ldI _ _, mono_retI _ _ _, mono_iinc _ _ _, mono_goto _, mono_push _ _, mono_retI _ _ _, trivial⟩
theorem sJ1_indexOfChar_4cfef : AllS yJ1_indexOfChar_4cfef cJ1_indexOfChar_4cfef 6 (some .int) rJ1_indexOfChar_4cfef kJ1_indexOfChar_4cfef := ⟨fun _ _ _ _ _ _ _ _ _ _ _ _ _ A hr hn hx => o_ldIn A rfl dJ1_indexOfChar_4cfef_0,
  fun _ _ _ _ _ _ _ _ _ _ _ _ _ A hr hn hx => o_i2b A dJ1_indexOfChar_4cfef_1,
  fun _ _ _ _ _ _ _ _ _ _ _ _ _ A hr hn hx => o_stI A (by decide) dJ1_indexOfChar_4cfef_2,
  fun _ _ _ _ _ _ _ _ _ _ _ _ _ A hr hn hx => o_ldIn A rfl dJ1_indexOfChar_4cfef_4,
  fun _ _ _ _ _ _ _ _ _ _ _ _ _ A hr hn hx => o_stI A (by decide) dJ1_indexOfChar_4cfef_5,
  fun _ _ _ _ _ _ _ _ _ _ _ _ _ A hr hn hx => o_ldI A dJ1_indexOfChar_4cfef_7,
  fun _ _ _ _ _ _ _ _ _ _ _ _ _ A hr hn hx => o_ldIn A rfl dJ1_indexOfChar_4cfef_9,
  fun _ _ _ _ _ _ _ _ _ _ _ _ _ A hr hn hx => o_ic_ge A (t := 31) (by decide) dJ1_indexOfChar_4cfef_10,
  fun _ _ _ _ _ _ _ _ _ _ _ _ _ A hr hn hx => o_ldAn A rfl dJ1_indexOfChar_4cfef_13,
  fun _ _ _ _ _ _ _ _ _ _ _ _ _ A hr hn hx => o_ldI A dJ1_indexOfChar_4cfef_14,
  fun _ _ _ _ _ _ _ _ _ _ _ _ _ A hr hn hx => o_aTx A dJ1_indexOfChar_4cfef_16,
  fun _ _ _ _ _ _ _ _ _ _ _ _ _ A hr hn hx => o_ldI A dJ1_indexOfChar_4cfef_17,
  fun _ _ _ _ _ _ _ _ _ _ _ _ _ A hr hn hx => o_ic_ne A (t := 25) (by decide) dJ1_indexOfChar_4cfef_19,
  fun _ _ _ _ _ _ _ _ _ _ _ _ _ A hr hn hx => o_ldI A dJ1_indexOfChar_4cfef_22,
  fun _ _ _ _ _ _ _ _ _ _ _ _ _ A hr hn hx => o_retI A hr okr_int dJ1_indexOfChar_4cfef_24,
  fun _ _ _ _ _ _ _ _ _ _ _ _ _ A hr hn hx => o_iinc A (by decide) (by decide) dJ1_indexOfChar_4cfef_25,
  fun _ _ _ _ _ _ _ _ _ _ _ _ _ A hr hn hx => o_goto A (t := 7) (by decide) dJ1_indexOfChar_4cfef_28,
  fun _ _ _ _ _ _ _ _ _ _ _ _ _ A hr hn hx => o_iconst A (by decide) dJ1_indexOfChar_4cfef_31,
  fun _ _ _ _ _ _ _ _ _ _ _ _ _ A hr hn hx => o_retI A hr okr_int dJ1_indexOfChar_4cfef_32, trivial⟩
def wJ1_indexOfChar_4cfef : WT := wT 6 kJ1_indexOfChar_4cfef
theorem uJ1_indexOfChar_4cfef : UM yJ1_indexOfChar_4cfef cJ1_indexOfChar_4cfef 6 (some .int) rJ1_indexOfChar_4cfef wJ1_indexOfChar_4cfef := UM.ofT rfl sJ1_indexOfChar_4cfef
theorem nJ1_indexOfChar_4cfef : ∀ av h (Q Q' : QT), (∀ r h, Q r h → Q' r h) → wJ1_indexOfChar_4cfef av h Q → wJ1_indexOfChar_4cfef av h Q' := wT_mono mJ1_indexOfChar_4cfef
def rJ1_indexOf_4cfef : Room := { frames := 1, cells := 0, slots := 0, locals := 25 }
def kJ1_indexOf_4cfef : List (Nat × Sem) := [(0, k_ldI 1 1),
  (1, k_call 4 1 0 0 0 0 wJ1_canEncode_9a6ad),
  (4, k_if 9 7 (fun x => x = 0)),
  (7, k_push 8 (.int (-1))),
  (8, k_retI 0 0 0),
  (9, k_ldI 10 2),
  (10, k_push 11 (.int 0)),
  (11, k_max 14 0 0),
  (14, k_stI 15 2),
  (15, k_ldI 16 3),
  (16, k_ldA 17 0),
  (17, k_alenX 18 261 4),
  (18, k_min 21 0 0),
  (21, k_stI 22 3),
  (22, k_ldI 23 2),
  (23, k_ldI 24 3),
  (24, k_ic 27 29 (fun x y => x < y)),
  (27, k_push 28 (.int (-1))),
  (28, k_retI 0 0 0),
  (29, k_ldA 30 0),
  (30, k_ldI 31 1),
  (31, k_ldI 32 2),
  (32, k_ldI 33 3),
  (33, k_call 36 4 0 0 0 0 wJ1_indexOfChar_4cfef),
  (36, k_retI 0 0 0)]
theorem mJ1_indexOf_4cfef : AllM kJ1_indexOf_4cfef := ⟨mono_ldI _ _, mono_call _ _ _ _ _ _ _ nJ1_canEncode_9a6ad, mono_if _ _ _, mono_push _ _, mono_retI _ _ _, mono_ldI _ _, mono_push _ _, mono_max _ _ _, mono_stI _ _, mono_ldI _ _, mono_ldA _ _, mono_alenX _ _ _, mono_min _ _ _, mono_stI _ _, mono_ldI _ _, mono_ldI _ _, mono_ic _ _ _, mono_push _ _, mono_retI _ _ _, mono_ldA _ _, mono_ldI _ _, mono_ldI _ _, mono_ldI _ _, mono_call _ _ _ _ _ _ _ nJ1_indexOfChar_4cfef, mono_retI _ _ _, trivial⟩
theorem sJ1_indexOf_4cfef : AllS yJ1_indexOf_4cfef cJ1_indexOf_4cfef 4 (some .int) rJ1_indexOf_4cfef kJ1_indexOf_4cfef := ⟨fun _ _ _ _ _ _ _ _ _ _ _ _ _ A hr hn hx => o_ldIn A rfl dJ1_indexOf_4cfef_0,
  fun _ _ _ _ _ _ _ _ _ _ _ _ _ A hr hn hx => o_callS A (rm := rJ1_canEncode_9a6ad) uJ1_canEncode_9a6ad aw_1740 rfl aw_1738 aw_1739 aw_36 (by decide) (by decide) (Nat.le_refl _) (Nat.le_refl _) (exc_out hx A.2.2.2.2.2.2.1) dJ1_indexOf_4cfef_1,
  fun _ _ _ _ _ _ _ _ _ _ _ _ _ A hr hn hx => o_if_ne A (t := 9) (by decide) dJ1_indexOf_4cfef_4,
  fun _ _ _ _ _ _ _ _ _ _ _ _ _ A hr hn hx => o_iconst A (by decide) dJ1_indexOf_4cfef_7,
  fun _ _ _ _ _ _ _ _ _ _ _ _ _ A hr hn hx => o_retI A hr okr_int dJ1_indexOf_4cfef_8,
  fun _ _ _ _ _ _ _ _ _ _ _ _ _ A hr hn hx => o_ldIn A rfl dJ1_indexOf_4cfef_9,
  fun _ _ _ _ _ _ _ _ _ _ _ _ _ A hr hn hx => o_iconst A (by decide) dJ1_indexOf_4cfef_10,
  fun _ _ _ _ _ _ _ _ _ _ _ _ _ A hr hn hx => o_max A aw_1741 aw_942 aw_25 aw_max (by decide) (by decide) (Nat.le_refl _) (Nat.le_refl _) dJ1_indexOf_4cfef_11,
  fun _ _ _ _ _ _ _ _ _ _ _ _ _ A hr hn hx => o_stIn A rfl (by decide) dJ1_indexOf_4cfef_14,
  fun _ _ _ _ _ _ _ _ _ _ _ _ _ A hr hn hx => o_ldIn A rfl dJ1_indexOf_4cfef_15,
  fun _ _ _ _ _ _ _ _ _ _ _ _ _ A hr hn hx => o_ldAn A rfl dJ1_indexOf_4cfef_16,
  fun _ _ _ _ _ _ _ _ _ _ _ _ _ A hr hn hx => o_alenX A (by decide) (by decide) (A.gex.2.2.2.2.2.2.2.2.2.2.1.1 0 (by decide)).2.2.2 dJ1_indexOf_4cfef_17,
  fun _ _ _ _ _ _ _ _ _ _ _ _ _ A hr hn hx => o_min A aw_1742 aw_945 aw_25 aw_min (by decide) (by decide) (Nat.le_refl _) (Nat.le_refl _) dJ1_indexOf_4cfef_18,
  fun _ _ _ _ _ _ _ _ _ _ _ _ _ A hr hn hx => o_stIn A rfl (by decide) dJ1_indexOf_4cfef_21,
  fun _ _ _ _ _ _ _ _ _ _ _ _ _ A hr hn hx => o_ldIn A rfl dJ1_indexOf_4cfef_22,
  fun _ _ _ _ _ _ _ _ _ _ _ _ _ A hr hn hx => o_ldIn A rfl dJ1_indexOf_4cfef_23,
  fun _ _ _ _ _ _ _ _ _ _ _ _ _ A hr hn hx => o_ic_lt A (t := 29) (by decide) dJ1_indexOf_4cfef_24,
  fun _ _ _ _ _ _ _ _ _ _ _ _ _ A hr hn hx => o_iconst A (by decide) dJ1_indexOf_4cfef_27,
  fun _ _ _ _ _ _ _ _ _ _ _ _ _ A hr hn hx => o_retI A hr okr_int dJ1_indexOf_4cfef_28,
  fun _ _ _ _ _ _ _ _ _ _ _ _ _ A hr hn hx => o_ldAn A rfl dJ1_indexOf_4cfef_29,
  fun _ _ _ _ _ _ _ _ _ _ _ _ _ A hr hn hx => o_ldIn A rfl dJ1_indexOf_4cfef_30,
  fun _ _ _ _ _ _ _ _ _ _ _ _ _ A hr hn hx => o_ldIn A rfl dJ1_indexOf_4cfef_31,
  fun _ _ _ _ _ _ _ _ _ _ _ _ _ A hr hn hx => o_ldIn A rfl dJ1_indexOf_4cfef_32,
  fun _ _ _ _ _ _ _ _ _ _ _ _ _ A hr hn hx => o_callS A (rm := rJ1_indexOfChar_4cfef) uJ1_indexOfChar_4cfef aw_1745 rfl aw_1743 aw_1744 aw_36 (by decide) (by decide) (Nat.le_refl _) (Nat.le_refl _) (exc_out hx A.2.2.2.2.2.2.1) dJ1_indexOf_4cfef_33,
  fun _ _ _ _ _ _ _ _ _ _ _ _ _ A hr hn hx => o_retI A hr okr_int dJ1_indexOf_4cfef_36, trivial⟩
def wJ1_indexOf_4cfef : WT := wT 4 kJ1_indexOf_4cfef
theorem uJ1_indexOf_4cfef : UM yJ1_indexOf_4cfef cJ1_indexOf_4cfef 4 (some .int) rJ1_indexOf_4cfef wJ1_indexOf_4cfef := UM.ofT rfl sJ1_indexOf_4cfef
theorem nJ1_indexOf_4cfef : ∀ av h (Q Q' : QT), (∀ r h, Q r h → Q' r h) → wJ1_indexOf_4cfef av h Q → wJ1_indexOf_4cfef av h Q' := wT_mono mJ1_indexOf_4cfef
def rJ0_indexOf_7cf53 : Room := { frames := 2, cells := 0, slots := 0, locals := 48 }
def kJ0_indexOf_7cf53 : List (Nat × Sem) := [(0, k_ldA 1 0),
  (1, k_callO 4 1 isTxt 0 0 0 0 wJ0_isLatin1_aae02),
  (4, k_if 7 23 (fun x => x = 0)),
  (7, k_ldA 8 0),
  (8, k_gTx 11 (.ref 261)),
  (11, k_ldI 12 1),
  (12, k_ldI 13 2),
  (13, k_ldA 14 0),
  (14, k_callO 17 1 isTxt 0 0 0 0 wJ0_length_8abf5),
  (17, k_call 20 4 0 0 0 0 wJ1_indexOf_4cfef),
  (20, k_goto 36),
  (23, k_ldA 24 0),
  (24, k_gTx 27 (.ref 261)),
  (27, k_ldI 28 1),
  (28, k_ldI 29 2),
  (29, k_ldA 30 0),
  (30, k_callO 33 1 isTxt 0 0 0 0 wJ0_length_8abf5),
  (36, k_retI 0 0 0)]
theorem mJ0_indexOf_7cf53 : AllM kJ0_indexOf_7cf53 := ⟨mono_ldA _ _, mono_callO _ _ _ _ _ _ _ _ nJ0_isLatin1_aae02, mono_if _ _ _, mono_ldA _ _, mono_gTx _ _, mono_ldI _ _, mono_ldI _ _, mono_ldA _ _, mono_callO _ _ _ _ _ _ _ _ nJ0_length_8abf5, mono_call _ _ _ _ _ _ _ nJ1_indexOf_4cfef, mono_goto _, mono_ldA _ _, mono_gTx _ _, mono_ldI _ _, mono_ldI _ _, mono_ldA _ _, mono_callO _ _ _ _ _ _ _ _ nJ0_length_8abf5, mono_retI _ _ _, trivial⟩
theorem sJ0_indexOf_7cf53 : AllS yJ0_indexOf_7cf53 cJ0_indexOf_7cf53 3 (some .int) rJ0_indexOf_7cf53 kJ0_indexOf_7cf53 := ⟨fun _ _ _ _ _ _ _ _ _ _ _ _ _ A hr hn hx => o_ldAn A rfl dJ0_indexOf_7cf53_0,
  fun _ _ _ _ _ _ _ _ _ _ _ _ _ A hr hn hx => o_callO A (rm := rJ0_isLatin1_aae02) (txtP A) uJ0_isLatin1_aae02 aw_1724 rfl aw_1721 aw_1722 aw_1723 aw_19 (by decide) (by decide) (Nat.le_refl _) (Nat.le_refl _) (exc_out hx A.2.2.2.2.2.2.1) dJ0_indexOf_7cf53_1,
  fun _ _ _ _ _ _ _ _ _ _ _ _ _ A hr hn hx => o_if_eq A (t := 23) (by decide) dJ0_indexOf_7cf53_4,
  fun _ _ _ _ _ _ _ _ _ _ _ _ _ A hr hn hx => o_ldAn A rfl dJ0_indexOf_7cf53_7,
  fun _ _ _ _ _ _ _ _ _ _ _ _ _ A hr hn hx => o_gTxV A aw_1881 (fun _ h => h) dJ0_indexOf_7cf53_8,
  fun _ _ _ _ _ _ _ _ _ _ _ _ _ A hr hn hx => o_ldIn A rfl dJ0_indexOf_7cf53_11,
  fun _ _ _ _ _ _ _ _ _ _ _ _ _ A hr hn hx => o_ldIn A rfl dJ0_indexOf_7cf53_12,
  fun _ _ _ _ _ _ _ _ _ _ _ _ _ A hr hn hx => o_ldAn A rfl dJ0_indexOf_7cf53_13,
  fun _ _ _ _ _ _ _ _ _ _ _ _ _ A hr hn hx => o_callO A (rm := rJ0_length_8abf5) (txtP A) uJ0_length_8abf5 aw_1730 rfl aw_1727 aw_1728 aw_1729 aw_19 (by decide) (by decide) (Nat.le_refl _) (Nat.le_refl _) (exc_out hx A.2.2.2.2.2.2.1) dJ0_indexOf_7cf53_14,
  fun _ _ _ _ _ _ _ _ _ _ _ _ _ A hr hn hx => o_callSx A (rm := rJ1_indexOf_4cfef) uJ1_indexOf_4cfef aw_1737 aw_1735 aw_1736 aw_36 (by decide) (by decide) (Nat.le_refl _) (Nat.le_refl _) (exc_out hx A.2.2.2.2.2.2.1) dJ0_indexOf_7cf53_17,
  fun _ _ _ _ _ _ _ _ _ _ _ _ _ A hr hn hx => o_goto A (t := 36) (by decide) dJ0_indexOf_7cf53_20,
  fun _ _ _ _ _ _ _ _ _ _ _ _ _ A hr hn hx => o_ldAn A rfl dJ0_indexOf_7cf53_23,
  fun _ _ _ _ _ _ _ _ _ _ _ _ _ A hr hn hx => o_gTxV A aw_1881 (fun _ h => h) dJ0_indexOf_7cf53_24,
  fun _ _ _ _ _ _ _ _ _ _ _ _ _ A hr hn hx => o_ldIn A rfl dJ0_indexOf_7cf53_27,
  fun _ _ _ _ _ _ _ _ _ _ _ _ _ A hr hn hx => o_ldIn A rfl dJ0_indexOf_7cf53_28,
  fun _ _ _ _ _ _ _ _ _ _ _ _ _ A hr hn hx => o_ldAn A rfl dJ0_indexOf_7cf53_29,
  fun _ _ _ _ _ _ _ _ _ _ _ _ _ A hr hn hx => o_callO A (rm := rJ0_length_8abf5) (txtP A) uJ0_length_8abf5 aw_1730 rfl aw_1727 aw_1728 aw_1729 aw_19 (by decide) (by decide) (Nat.le_refl _) (Nat.le_refl _) (exc_out hx A.2.2.2.2.2.2.1) dJ0_indexOf_7cf53_30,
  fun _ _ _ _ _ _ _ _ _ _ _ _ _ A hr hn hx => o_retI A hr okr_int dJ0_indexOf_7cf53_36, trivial⟩
def wJ0_indexOf_7cf53 : WT := wT 3 kJ0_indexOf_7cf53
theorem uJ0_indexOf_7cf53 : UM yJ0_indexOf_7cf53 cJ0_indexOf_7cf53 3 (some .int) rJ0_indexOf_7cf53 wJ0_indexOf_7cf53 := UM.ofT rfl sJ0_indexOf_7cf53
theorem nJ0_indexOf_7cf53 : ∀ av h (Q Q' : QT), (∀ r h, Q r h → Q' r h) → wJ0_indexOf_7cf53 av h Q → wJ0_indexOf_7cf53 av h Q' := wT_mono mJ0_indexOf_7cf53
def rJ0_indexOf_0f7a4 : Room := { frames := 3, cells := 0, slots := 0, locals := 70 }
def kJ0_indexOf_0f7a4 : List (Nat × Sem) := [(0, k_ldA 1 0),
  (1, k_ldI 2 1),
  (2, k_push 3 (.int 0)),
  (3, k_callO 6 3 isTxt 0 0 0 0 wJ0_indexOf_7cf53),
  (6, k_retI 0 0 0)]
theorem mJ0_indexOf_0f7a4 : AllM kJ0_indexOf_0f7a4 := ⟨mono_ldA _ _, mono_ldI _ _, mono_push _ _, mono_callO _ _ _ _ _ _ _ _ nJ0_indexOf_7cf53, mono_retI _ _ _, trivial⟩
theorem sJ0_indexOf_0f7a4 : AllS yJ0_indexOf_0f7a4 cJ0_indexOf_0f7a4 2 (some .int) rJ0_indexOf_0f7a4 kJ0_indexOf_0f7a4 := ⟨fun _ _ _ _ _ _ _ _ _ _ _ _ _ A hr hn hx => o_ldAn A rfl dJ0_indexOf_0f7a4_0,
  fun _ _ _ _ _ _ _ _ _ _ _ _ _ A hr hn hx => o_ldIn A rfl dJ0_indexOf_0f7a4_1,
  fun _ _ _ _ _ _ _ _ _ _ _ _ _ A hr hn hx => o_iconst A (by decide) dJ0_indexOf_0f7a4_2,
  fun _ _ _ _ _ _ _ _ _ _ _ _ _ A hr hn hx => o_callO A (rm := rJ0_indexOf_7cf53) (txtP A) uJ0_indexOf_7cf53 aw_1720 rfl aw_1717 aw_1718 aw_1719 aw_19 (by decide) (by decide) (Nat.le_refl _) (Nat.le_refl _) (exc_out hx A.2.2.2.2.2.2.1) dJ0_indexOf_0f7a4_3,
  fun _ _ _ _ _ _ _ _ _ _ _ _ _ A hr hn hx => o_retI A hr okr_int dJ0_indexOf_0f7a4_6, trivial⟩
def wJ0_indexOf_0f7a4 : WT := wT 2 kJ0_indexOf_0f7a4
theorem uJ0_indexOf_0f7a4 : UM yJ0_indexOf_0f7a4 cJ0_indexOf_0f7a4 2 (some .int) rJ0_indexOf_0f7a4 wJ0_indexOf_0f7a4 := UM.ofT rfl sJ0_indexOf_0f7a4
theorem nJ0_indexOf_0f7a4 : ∀ av h (Q Q' : QT), (∀ r h, Q r h → Q' r h) → wJ0_indexOf_0f7a4 av h Q → wJ0_indexOf_0f7a4 av h Q' := wT_mono mJ0_indexOf_0f7a4
def rX9_pin : Room := { frames := 7, cells := 2, slots := 12, locals := 120 }
def kX9_pin : List (Nat × Sem) := [(0, k_ldA 1 0),
  (1, k_gR 4 13 2),
  (4, k_ldA 5 0),
  (5, k_ldI 6 1),
  (6, k_ldI 7 2),
  (7, k_callV 10 3 13 1 6 2 12 wX9_spotOf),
  (10, k_callV 13 2 10 0 0 2 12 wX6_find),
  (13, k_stI 14 3),
  (14, k_ldI 15 3),
  (15, k_if 18 28 (fun x => 0 ≤ x)),
  (18, k_throw "java/util/NoSuchElementException" 2 12),
  (28, k_ldA 29 0),
  (29, k_gR 32 13 2),
  (32, k_gR 35 10 0),
  (35, k_ldI 36 3),
  (36, k_aR 37 105),
  (37, k_dup 38),
  (38, k_gI 41 7 2),
  (41, k_push 42 (.int 1)),
  (42, k_bI 43 (fun x y => x + y)),
  (43, k_pI 46 7 2 0),
  (46, k_ldA 47 0),
  (47, k_gR 50 13 2),
  (50, k_gR 53 10 0),
  (53, k_ldI 54 3),
  (54, k_aR 55 105),
  (55, k_gI 58 7 2),
  (58, k_retI 0 2 12)]
theorem mX9_pin : AllM kX9_pin := ⟨mono_ldA _ _, mono_gR _ _ _, mono_ldA _ _, mono_ldI _ _, mono_ldI _ _, mono_callV _ _ _ _ _ _ _ _ nX9_spotOf, mono_callV _ _ _ _ _ _ _ _ nX6_find, mono_stI _ _, mono_ldI _ _, mono_if _ _ _, mono_throw _ _ _, mono_ldA _ _, mono_gR _ _ _, mono_gR _ _ _, mono_ldI _ _, mono_aR _ _, mono_dup _, mono_gI _ _ _, mono_push _ _, mono_bI _ _, mono_pI _ _ _ _, mono_ldA _ _, mono_gR _ _ _, mono_gR _ _ _, mono_ldI _ _, mono_aR _ _, mono_gI _ _ _, mono_retI _ _ _, trivial⟩
theorem sX9_pin : AllS yX9_pin cX9_pin 4 (some .int) rX9_pin kX9_pin := ⟨fun _ _ _ _ _ _ _ _ _ _ _ _ _ A hr hn hx => o_ldAn A rfl dX9_pin_0,
  fun _ _ _ _ _ _ _ _ _ _ _ _ _ A hr hn hx => o_gR A (C := RX9) (T := TX9) (N := 16) (ci := 13) rfl (by decide) hinX9 rfl 2 (by decide) aw_276 (fun _ _ _ h => h) (fun _ _ _ => rfl) dX9_pin_1,
  fun _ _ _ _ _ _ _ _ _ _ _ _ _ A hr hn hx => o_ldAn A rfl dX9_pin_4,
  fun _ _ _ _ _ _ _ _ _ _ _ _ _ A hr hn hx => o_ldIn A rfl dX9_pin_5,
  fun _ _ _ _ _ _ _ _ _ _ _ _ _ A hr hn hx => o_ldIn A rfl dX9_pin_6,
  fun _ _ _ _ _ _ _ _ _ _ _ _ _ A hr hn hx => o_callV A (rm := rX9_spotOf) (C := RX9) (T := TX9) (N := 16) (ci := 13) uX9_spotOf aw_753 rfl rfl (by decide) aw_750 aw_752 aw_p13 aw_1 (by decide) (by decide) (Nat.le_refl _) (Nat.le_refl _) (exc_out hx A.2.2.2.2.2.2.1) dX9_pin_7,
  fun _ _ _ _ _ _ _ _ _ _ _ _ _ A hr hn hx => o_callV A (rm := rX6_find) (C := RX6) (T := TX6) (N := 4) (ci := 10) uX6_find aw_402 rfl rfl (by decide) aw_755 aw_400 aw_401 aw_4 (by decide) (by decide) (Nat.le_refl _) (Nat.le_refl _) (exc_out hx A.2.2.2.2.2.2.1) dX9_pin_10,
  fun _ _ _ _ _ _ _ _ _ _ _ _ _ A hr hn hx => o_stIn A rfl (by decide) dX9_pin_13,
  fun _ _ _ _ _ _ _ _ _ _ _ _ _ A hr hn hx => o_ldIn A rfl dX9_pin_14,
  fun _ _ _ _ _ _ _ _ _ _ _ _ _ A hr hn hx => o_if_ge A (t := 28) (by decide) dX9_pin_15,
  fun _ _ _ _ _ _ _ _ _ _ _ _ _ A hr hn hx => o_throwN A (text := "the page is in no frame") (ik := 200) (is := 202) (ic := 204) thrN_204 sw_846 dX9_pin_18 dX9_pin_21 dX9_pin_22 dX9_pin_24 dX9_pin_27 hx (by decide) (by decide) (Nat.le_refl _) (Nat.le_refl _),
  fun _ _ _ _ _ _ _ _ _ _ _ _ _ A hr hn hx => o_ldAn A rfl dX9_pin_28,
  fun _ _ _ _ _ _ _ _ _ _ _ _ _ A hr hn hx => o_gR A (C := RX9) (T := TX9) (N := 16) (ci := 13) rfl (by decide) hinX9 rfl 2 (by decide) aw_276 (fun _ _ _ h => h) (fun _ _ _ => rfl) dX9_pin_29,
  fun _ _ _ _ _ _ _ _ _ _ _ _ _ A hr hn hx => o_gR A (C := RX6) (T := TX6) (N := 4) (ci := 10) rfl (by decide) hinX6 rfl 0 (by decide) aw_167 (fun _ _ _ h => h) (fun _ _ _ => rfl) dX9_pin_32,
  fun _ _ _ _ _ _ _ _ _ _ _ _ _ A hr hn hx => o_ldIn A rfl dX9_pin_35,
  fun _ _ _ _ _ _ _ _ _ _ _ _ _ A hr hn hx => o_ald105 A dX9_pin_36,
  fun _ _ _ _ _ _ _ _ _ _ _ _ _ A hr hn hx => o_dup A dX9_pin_37,
  fun _ _ _ _ _ _ _ _ _ _ _ _ _ A hr hn hx => o_gI A (C := RX3) (T := TX3) (N := 13) (ci := 7) rfl (by decide) hinX3 rfl 2 (by decide) aw_121 (fun _ _ _ h => h) (fun _ _ _ => rfl) dX9_pin_38,
  fun _ _ _ _ _ _ _ _ _ _ _ _ _ A hr hn hx => o_iconst A (by decide) dX9_pin_41,
  fun _ _ _ _ _ _ _ _ _ _ _ _ _ A hr hn hx => o_iadd A dX9_pin_42,
  fun _ _ _ _ _ _ _ _ _ _ _ _ _ A hr hn hx => o_pI A (C := RX3) (T := TX3) (N := 13) (ci := 7) rfl (by decide) hinX3 rfl 2 (by decide) tyX3 tyX3_ok nmX3 aw_121 (fun _ _ _ h => h) rfl (t := 0) rfl okv_int (fun _ _ _ _ => rfl) dX9_pin_43,
  fun _ _ _ _ _ _ _ _ _ _ _ _ _ A hr hn hx => o_ldAn A rfl dX9_pin_46,
  fun _ _ _ _ _ _ _ _ _ _ _ _ _ A hr hn hx => o_gR A (C := RX9) (T := TX9) (N := 16) (ci := 13) rfl (by decide) hinX9 rfl 2 (by decide) aw_276 (fun _ _ _ h => h) (fun _ _ _ => rfl) dX9_pin_47,
  fun _ _ _ _ _ _ _ _ _ _ _ _ _ A hr hn hx => o_gR A (C := RX6) (T := TX6) (N := 4) (ci := 10) rfl (by decide) hinX6 rfl 0 (by decide) aw_167 (fun _ _ _ h => h) (fun _ _ _ => rfl) dX9_pin_50,
  fun _ _ _ _ _ _ _ _ _ _ _ _ _ A hr hn hx => o_ldIn A rfl dX9_pin_53,
  fun _ _ _ _ _ _ _ _ _ _ _ _ _ A hr hn hx => o_ald105 A dX9_pin_54,
  fun _ _ _ _ _ _ _ _ _ _ _ _ _ A hr hn hx => o_gI A (C := RX3) (T := TX3) (N := 13) (ci := 7) rfl (by decide) hinX3 rfl 2 (by decide) aw_121 (fun _ _ _ h => h) (fun _ _ _ => rfl) dX9_pin_55,
  fun _ _ _ _ _ _ _ _ _ _ _ _ _ A hr hn hx => o_retI A hr okr_int dX9_pin_58, trivial⟩
def wX9_pin : WT := wT 4 kX9_pin
theorem uX9_pin : UM yX9_pin cX9_pin 4 (some .int) rX9_pin wX9_pin := UM.ofT rfl sX9_pin
theorem nX9_pin : ∀ av h (Q Q' : QT), (∀ r h, Q r h → Q' r h) → wX9_pin av h Q → wX9_pin av h Q' := wT_mono mX9_pin
def rX9_unpin : Room := { frames := 7, cells := 2, slots := 12, locals := 120 }
def kX9_unpin : List (Nat × Sem) := [(0, k_ldA 1 0),
  (1, k_gR 4 13 2),
  (4, k_ldA 5 0),
  (5, k_ldI 6 1),
  (6, k_ldI 7 2),
  (7, k_callV 10 3 13 1 6 2 12 wX9_spotOf),
  (10, k_callV 13 2 10 0 0 2 12 wX6_find),
  (13, k_stI 14 3),
  (14, k_ldI 15 3),
  (15, k_if 18 33 (fun x => x < 0)),
  (18, k_ldA 19 0),
  (19, k_gR 22 13 2),
  (22, k_gR 25 10 0),
  (25, k_ldI 26 3),
  (26, k_aR 27 105),
  (27, k_gI 30 7 2),
  (30, k_if 43 33 (fun x => x = 0)),
  (33, k_throw "java/util/NoSuchElementException" 2 12),
  (43, k_ldA 44 0),
  (44, k_gR 47 13 2),
  (47, k_gR 50 10 0),
  (50, k_ldI 51 3),
  (51, k_aR 52 105),
  (52, k_dup 53),
  (53, k_gI 56 7 2),
  (56, k_push 57 (.int 1)),
  (57, k_bI 58 (fun x y => x - y)),
  (58, k_pI 61 7 2 0),
  (61, k_ldA 62 0),
  (62, k_gR 65 13 2),
  (65, k_gR 68 10 0),
  (68, k_ldI 69 3),
  (69, k_aR 70 105),
  (70, k_gI 73 7 2),
  (73, k_retI 0 2 12)]
theorem mX9_unpin : AllM kX9_unpin := ⟨mono_ldA _ _, mono_gR _ _ _, mono_ldA _ _, mono_ldI _ _, mono_ldI _ _, mono_callV _ _ _ _ _ _ _ _ nX9_spotOf, mono_callV _ _ _ _ _ _ _ _ nX6_find, mono_stI _ _, mono_ldI _ _, mono_if _ _ _, mono_ldA _ _, mono_gR _ _ _, mono_gR _ _ _, mono_ldI _ _, mono_aR _ _, mono_gI _ _ _, mono_if _ _ _, mono_throw _ _ _, mono_ldA _ _, mono_gR _ _ _, mono_gR _ _ _, mono_ldI _ _, mono_aR _ _, mono_dup _, mono_gI _ _ _, mono_push _ _, mono_bI _ _, mono_pI _ _ _ _, mono_ldA _ _, mono_gR _ _ _, mono_gR _ _ _, mono_ldI _ _, mono_aR _ _, mono_gI _ _ _, mono_retI _ _ _, trivial⟩
theorem sX9_unpin : AllS yX9_unpin cX9_unpin 4 (some .int) rX9_unpin kX9_unpin := ⟨fun _ _ _ _ _ _ _ _ _ _ _ _ _ A hr hn hx => o_ldAn A rfl dX9_unpin_0,
  fun _ _ _ _ _ _ _ _ _ _ _ _ _ A hr hn hx => o_gR A (C := RX9) (T := TX9) (N := 16) (ci := 13) rfl (by decide) hinX9 rfl 2 (by decide) aw_276 (fun _ _ _ h => h) (fun _ _ _ => rfl) dX9_unpin_1,
  fun _ _ _ _ _ _ _ _ _ _ _ _ _ A hr hn hx => o_ldAn A rfl dX9_unpin_4,
  fun _ _ _ _ _ _ _ _ _ _ _ _ _ A hr hn hx => o_ldIn A rfl dX9_unpin_5,
  fun _ _ _ _ _ _ _ _ _ _ _ _ _ A hr hn hx => o_ldIn A rfl dX9_unpin_6,
  fun _ _ _ _ _ _ _ _ _ _ _ _ _ A hr hn hx => o_callV A (rm := rX9_spotOf) (C := RX9) (T := TX9) (N := 16) (ci := 13) uX9_spotOf aw_753 rfl rfl (by decide) aw_750 aw_752 aw_p13 aw_1 (by decide) (by decide) (Nat.le_refl _) (Nat.le_refl _) (exc_out hx A.2.2.2.2.2.2.1) dX9_unpin_7,
  fun _ _ _ _ _ _ _ _ _ _ _ _ _ A hr hn hx => o_callV A (rm := rX6_find) (C := RX6) (T := TX6) (N := 4) (ci := 10) uX6_find aw_402 rfl rfl (by decide) aw_755 aw_400 aw_401 aw_4 (by decide) (by decide) (Nat.le_refl _) (Nat.le_refl _) (exc_out hx A.2.2.2.2.2.2.1) dX9_unpin_10,
  fun _ _ _ _ _ _ _ _ _ _ _ _ _ A hr hn hx => o_stIn A rfl (by decide) dX9_unpin_13,
  fun _ _ _ _ _ _ _ _ _ _ _ _ _ A hr hn hx => o_ldIn A rfl dX9_unpin_14,
  fun _ _ _ _ _ _ _ _ _ _ _ _ _ A hr hn hx => o_if_lt A (t := 33) (by decide) dX9_unpin_15,
  fun _ _ _ _ _ _ _ _ _ _ _ _ _ A hr hn hx => o_ldAn A rfl dX9_unpin_18,
  fun _ _ _ _ _ _ _ _ _ _ _ _ _ A hr hn hx => o_gR A (C := RX9) (T := TX9) (N := 16) (ci := 13) rfl (by decide) hinX9 rfl 2 (by decide) aw_276 (fun _ _ _ h => h) (fun _ _ _ => rfl) dX9_unpin_19,
  fun _ _ _ _ _ _ _ _ _ _ _ _ _ A hr hn hx => o_gR A (C := RX6) (T := TX6) (N := 4) (ci := 10) rfl (by decide) hinX6 rfl 0 (by decide) aw_167 (fun _ _ _ h => h) (fun _ _ _ => rfl) dX9_unpin_22,
  fun _ _ _ _ _ _ _ _ _ _ _ _ _ A hr hn hx => o_ldIn A rfl dX9_unpin_25,
  fun _ _ _ _ _ _ _ _ _ _ _ _ _ A hr hn hx => o_ald105 A dX9_unpin_26,
  fun _ _ _ _ _ _ _ _ _ _ _ _ _ A hr hn hx => o_gI A (C := RX3) (T := TX3) (N := 13) (ci := 7) rfl (by decide) hinX3 rfl 2 (by decide) aw_121 (fun _ _ _ h => h) (fun _ _ _ => rfl) dX9_unpin_27,
  fun _ _ _ _ _ _ _ _ _ _ _ _ _ A hr hn hx => o_if_ne A (t := 43) (by decide) dX9_unpin_30,
  fun _ _ _ _ _ _ _ _ _ _ _ _ _ A hr hn hx => o_throwN A (text := "the page is in no frame, or not pinned") (ik := 200) (is := 208) (ic := 204) thrN_204 sw_860 dX9_unpin_33 dX9_unpin_36 dX9_unpin_37 dX9_unpin_39 dX9_unpin_42 hx (by decide) (by decide) (Nat.le_refl _) (Nat.le_refl _),
  fun _ _ _ _ _ _ _ _ _ _ _ _ _ A hr hn hx => o_ldAn A rfl dX9_unpin_43,
  fun _ _ _ _ _ _ _ _ _ _ _ _ _ A hr hn hx => o_gR A (C := RX9) (T := TX9) (N := 16) (ci := 13) rfl (by decide) hinX9 rfl 2 (by decide) aw_276 (fun _ _ _ h => h) (fun _ _ _ => rfl) dX9_unpin_44,
  fun _ _ _ _ _ _ _ _ _ _ _ _ _ A hr hn hx => o_gR A (C := RX6) (T := TX6) (N := 4) (ci := 10) rfl (by decide) hinX6 rfl 0 (by decide) aw_167 (fun _ _ _ h => h) (fun _ _ _ => rfl) dX9_unpin_47,
  fun _ _ _ _ _ _ _ _ _ _ _ _ _ A hr hn hx => o_ldIn A rfl dX9_unpin_50,
  fun _ _ _ _ _ _ _ _ _ _ _ _ _ A hr hn hx => o_ald105 A dX9_unpin_51,
  fun _ _ _ _ _ _ _ _ _ _ _ _ _ A hr hn hx => o_dup A dX9_unpin_52,
  fun _ _ _ _ _ _ _ _ _ _ _ _ _ A hr hn hx => o_gI A (C := RX3) (T := TX3) (N := 13) (ci := 7) rfl (by decide) hinX3 rfl 2 (by decide) aw_121 (fun _ _ _ h => h) (fun _ _ _ => rfl) dX9_unpin_53,
  fun _ _ _ _ _ _ _ _ _ _ _ _ _ A hr hn hx => o_iconst A (by decide) dX9_unpin_56,
  fun _ _ _ _ _ _ _ _ _ _ _ _ _ A hr hn hx => o_isub A dX9_unpin_57,
  fun _ _ _ _ _ _ _ _ _ _ _ _ _ A hr hn hx => o_pI A (C := RX3) (T := TX3) (N := 13) (ci := 7) rfl (by decide) hinX3 rfl 2 (by decide) tyX3 tyX3_ok nmX3 aw_121 (fun _ _ _ h => h) rfl (t := 0) rfl okv_int (fun _ _ _ _ => rfl) dX9_unpin_58,
  fun _ _ _ _ _ _ _ _ _ _ _ _ _ A hr hn hx => o_ldAn A rfl dX9_unpin_61,
  fun _ _ _ _ _ _ _ _ _ _ _ _ _ A hr hn hx => o_gR A (C := RX9) (T := TX9) (N := 16) (ci := 13) rfl (by decide) hinX9 rfl 2 (by decide) aw_276 (fun _ _ _ h => h) (fun _ _ _ => rfl) dX9_unpin_62,
  fun _ _ _ _ _ _ _ _ _ _ _ _ _ A hr hn hx => o_gR A (C := RX6) (T := TX6) (N := 4) (ci := 10) rfl (by decide) hinX6 rfl 0 (by decide) aw_167 (fun _ _ _ h => h) (fun _ _ _ => rfl) dX9_unpin_65,
  fun _ _ _ _ _ _ _ _ _ _ _ _ _ A hr hn hx => o_ldIn A rfl dX9_unpin_68,
  fun _ _ _ _ _ _ _ _ _ _ _ _ _ A hr hn hx => o_ald105 A dX9_unpin_69,
  fun _ _ _ _ _ _ _ _ _ _ _ _ _ A hr hn hx => o_gI A (C := RX3) (T := TX3) (N := 13) (ci := 7) rfl (by decide) hinX3 rfl 2 (by decide) aw_121 (fun _ _ _ h => h) (fun _ _ _ => rfl) dX9_unpin_70,
  fun _ _ _ _ _ _ _ _ _ _ _ _ _ A hr hn hx => o_retI A hr okr_int dX9_unpin_73, trivial⟩
def wX9_unpin : WT := wT 4 kX9_unpin
theorem uX9_unpin : UM yX9_unpin cX9_unpin 4 (some .int) rX9_unpin wX9_unpin := UM.ofT rfl sX9_unpin
theorem nX9_unpin : ∀ av h (Q Q' : QT), (∀ r h, Q r h → Q' r h) → wX9_unpin av h Q → wX9_unpin av h Q' := wT_mono mX9_unpin
def rX9_keepImage : Room := { frames := 7, cells := 5, slots := 143, locals := 111 }
def kX9_keepImage : List (Nat × Sem) := [(0, k_ldA 1 0),
  (1, k_ldI 2 1),
  (2, k_callV 5 2 13 1 6 5 143 wX9_deviceOf),
  (5, k_stA 6 2),
  (6, k_ldA 7 0),
  (7, k_gI 10 13 8),
  (10, k_push 11 (.int 4)),
  (11, k_ic 14 25 (fun x y => x < y)),
  (14, k_throw "java/lang/IllegalStateException" 5 143),
  (25, k_ldA 26 0),
  (26, k_gR 29 13 7),
  (29, k_ldA 30 0),
  (30, k_gI 33 13 8),
  (33, k_new 36 8 3 5 143),
  (36, k_dup 37),
  (37, k_ldI 38 1),
  (38, k_ldA 39 2),
  (39, k_gR 42 5 1),
  (42, k_clo 45 5 143),
  (45, k_cast 48 100),
  (48, k_ldA 49 2),
  (49, k_gR 52 5 2),
  (52, k_clo 55 5 143),
  (55, k_cast 58 100),
  (58, k_callI 61 3 0 0 5 143 wX4_init),
  (61, k_sR 62 106 8),
  (62, k_ldA 63 0),
  (63, k_dup 64),
  (64, k_gI 67 13 8),
  (67, k_push 68 (.int 1)),
  (68, k_bI 69 (fun x y => x + y)),
  (69, k_pI 72 13 8 0),
  (72, k_ldA 73 0),
  (73, k_gI 76 13 8),
  (76, k_push 77 (.int 1)),
  (77, k_bI 78 (fun x y => x - y)),
  (78, k_retI 0 5 143)]
theorem mX9_keepImage : AllM kX9_keepImage := ⟨mono_ldA _ _, mono_ldI _ _, mono_callV _ _ _ _ _ _ _ _ nX9_deviceOf, mono_stA _ _, mono_ldA _ _, mono_gI _ _ _, mono_push _ _, mono_ic _ _ _, mono_throw _ _ _, mono_ldA _ _, mono_gR _ _ _, mono_ldA _ _, mono_gI _ _ _, mono_new _ _ _ _ _, mono_dup _, mono_ldI _ _, mono_ldA _ _, mono_gR _ _ _, mono_clo _ _ _, mono_cast _ _, mono_ldA _ _, mono_gR _ _ _, mono_clo _ _ _, mono_cast _ _, mono_callI _ _ _ _ _ _ _ nX4_init, mono_sR _ _ _, mono_ldA _ _, mono_dup _, mono_gI _ _ _, mono_push _ _, mono_bI _ _, mono_pI _ _ _ _, mono_ldA _ _, mono_gI _ _ _, mono_push _ _, mono_bI _ _, mono_retI _ _ _, trivial⟩
theorem sX9_keepImage : AllS yX9_keepImage cX9_keepImage 3 (some .int) rX9_keepImage kX9_keepImage := ⟨fun _ _ _ _ _ _ _ _ _ _ _ _ _ A hr hn hx => o_ldAn A rfl dX9_keepImage_0,
  fun _ _ _ _ _ _ _ _ _ _ _ _ _ A hr hn hx => o_ldIn A rfl dX9_keepImage_1,
  fun _ _ _ _ _ _ _ _ _ _ _ _ _ A hr hn hx => o_callV A (rm := rX9_deviceOf) (C := RX9) (T := TX9) (N := 16) (ci := 13) uX9_deviceOf aw_580 rfl rfl (by decide) aw_577 aw_579 aw_p6 aw_1 (by decide) (by decide) (Nat.le_refl _) (Nat.le_refl _) (exc_out hx A.2.2.2.2.2.2.1) dX9_keepImage_2,
  fun _ _ _ _ _ _ _ _ _ _ _ _ _ A hr hn hx => o_stAn A rfl (by decide) dX9_keepImage_5,
  fun _ _ _ _ _ _ _ _ _ _ _ _ _ A hr hn hx => o_ldAn A rfl dX9_keepImage_6,
  fun _ _ _ _ _ _ _ _ _ _ _ _ _ A hr hn hx => o_gI A (C := RX9) (T := TX9) (N := 16) (ci := 13) rfl (by decide) hinX9 rfl 8 (by decide) aw_282 (fun _ _ _ h => h) (fun _ _ _ => rfl) dX9_keepImage_7,
  fun _ _ _ _ _ _ _ _ _ _ _ _ _ A hr hn hx => o_iconst A (by decide) dX9_keepImage_10,
  fun _ _ _ _ _ _ _ _ _ _ _ _ _ A hr hn hx => o_ic_lt A (t := 25) (by decide) dX9_keepImage_11,
  fun _ _ _ _ _ _ _ _ _ _ _ _ _ A hr hn hx => o_throwW A (cls := "java/lang/IllegalStateException") (text := "all images are kept") (ik := 91) (is := 303) (ic := 95) (by decide) thr_X9_95 sw_996 dX9_keepImage_14 dX9_keepImage_17 dX9_keepImage_18 dX9_keepImage_21 dX9_keepImage_24 hx (by decide) (by decide) (Nat.le_refl _) (Nat.le_refl _),
  fun _ _ _ _ _ _ _ _ _ _ _ _ _ A hr hn hx => o_ldAn A rfl dX9_keepImage_25,
  fun _ _ _ _ _ _ _ _ _ _ _ _ _ A hr hn hx => o_gR A (C := RX9) (T := TX9) (N := 16) (ci := 13) rfl (by decide) hinX9 rfl 7 (by decide) aw_281 (fun _ _ _ h => h) (fun _ _ _ => rfl) dX9_keepImage_26,
  fun _ _ _ _ _ _ _ _ _ _ _ _ _ A hr hn hx => o_ldAn A rfl dX9_keepImage_29,
  fun _ _ _ _ _ _ _ _ _ _ _ _ _ A hr hn hx => o_gI A (C := RX9) (T := TX9) (N := 16) (ci := 13) rfl (by decide) hinX9 rfl 8 (by decide) aw_282 (fun _ _ _ h => h) (fun _ _ _ => rfl) dX9_keepImage_30,
  fun _ _ _ _ _ _ _ _ _ _ _ _ _ A hr hn hx => o_new A (C := RX4) (T := TX4) (N := 3) (ci := 8) rfl (by decide) hinX4 rfl tyX4 tyX4_ok (by decide) aw_272 aw_997 aw_34 (Nat.le_refl _) (Nat.le_refl _) dX9_keepImage_33,
  fun _ _ _ _ _ _ _ _ _ _ _ _ _ A hr hn hx => o_dup A dX9_keepImage_36,
  fun _ _ _ _ _ _ _ _ _ _ _ _ _ A hr hn hx => o_ldIn A rfl dX9_keepImage_37,
  fun _ _ _ _ _ _ _ _ _ _ _ _ _ A hr hn hx => o_ldAn A rfl dX9_keepImage_38,
  fun _ _ _ _ _ _ _ _ _ _ _ _ _ A hr hn hx => o_gR A (C := RX1) (T := TX1) (N := 6) (ci := 5) rfl (by decide) hinX1 rfl 1 (by decide) aw_58 (fun _ _ _ h => h) (fun _ _ _ => rfl) dX9_keepImage_39,
  fun _ _ _ _ _ _ _ _ _ _ _ _ _ A hr hn hx => o_clo A aw_998 aw_999 aw_1000 aw_1001 aw_1002 aw_1003 (by decide) (by decide) (Nat.le_refl _) (Nat.le_refl _) dX9_keepImage_42,
  fun _ _ _ _ _ _ _ _ _ _ _ _ _ A hr hn hx => o_castI A aw_1004 dX9_keepImage_45,
  fun _ _ _ _ _ _ _ _ _ _ _ _ _ A hr hn hx => o_ldAn A rfl dX9_keepImage_48,
  fun _ _ _ _ _ _ _ _ _ _ _ _ _ A hr hn hx => o_gR A (C := RX1) (T := TX1) (N := 6) (ci := 5) rfl (by decide) hinX1 rfl 2 (by decide) aw_60 (fun _ _ _ h => h) (fun _ _ _ => rfl) dX9_keepImage_49,
  fun _ _ _ _ _ _ _ _ _ _ _ _ _ A hr hn hx => o_clo A aw_998 aw_999 aw_1000 aw_1001 aw_1002 aw_1003 (by decide) (by decide) (Nat.le_refl _) (Nat.le_refl _) dX9_keepImage_52,
  fun _ _ _ _ _ _ _ _ _ _ _ _ _ A hr hn hx => o_castI A aw_1004 dX9_keepImage_55,
  fun _ _ _ _ _ _ _ _ _ _ _ _ _ A hr hn hx => o_callI A (rm := rX4_init) uX4_init aw_1007 (Or.inl aw_1005) aw_1006 aw_34 rfl (by decide) (by decide) (Nat.le_refl _) (Nat.le_refl _) dX9_keepImage_58,
  fun _ _ _ _ _ _ _ _ _ _ _ _ _ A hr hn hx => o_ast106 A dX9_keepImage_61,
  fun _ _ _ _ _ _ _ _ _ _ _ _ _ A hr hn hx => o_ldAn A rfl dX9_keepImage_62,
  fun _ _ _ _ _ _ _ _ _ _ _ _ _ A hr hn hx => o_dup A dX9_keepImage_63,
  fun _ _ _ _ _ _ _ _ _ _ _ _ _ A hr hn hx => o_gI A (C := RX9) (T := TX9) (N := 16) (ci := 13) rfl (by decide) hinX9 rfl 8 (by decide) aw_282 (fun _ _ _ h => h) (fun _ _ _ => rfl) dX9_keepImage_64,
  fun _ _ _ _ _ _ _ _ _ _ _ _ _ A hr hn hx => o_iconst A (by decide) dX9_keepImage_67,
  fun _ _ _ _ _ _ _ _ _ _ _ _ _ A hr hn hx => o_iadd A dX9_keepImage_68,
  fun _ _ _ _ _ _ _ _ _ _ _ _ _ A hr hn hx => o_pI A (C := RX9) (T := TX9) (N := 16) (ci := 13) rfl (by decide) hinX9 rfl 8 (by decide) tyX9 tyX9_ok nmX9 aw_282 (fun _ _ _ h => h) rfl (t := 0) rfl okv_int (fun _ _ _ _ => rfl) dX9_keepImage_69,
  fun _ _ _ _ _ _ _ _ _ _ _ _ _ A hr hn hx => o_ldAn A rfl dX9_keepImage_72,
  fun _ _ _ _ _ _ _ _ _ _ _ _ _ A hr hn hx => o_gI A (C := RX9) (T := TX9) (N := 16) (ci := 13) rfl (by decide) hinX9 rfl 8 (by decide) aw_282 (fun _ _ _ h => h) (fun _ _ _ => rfl) dX9_keepImage_73,
  fun _ _ _ _ _ _ _ _ _ _ _ _ _ A hr hn hx => o_iconst A (by decide) dX9_keepImage_76,
  fun _ _ _ _ _ _ _ _ _ _ _ _ _ A hr hn hx => o_isub A dX9_keepImage_77,
  fun _ _ _ _ _ _ _ _ _ _ _ _ _ A hr hn hx => o_retI A hr okr_int dX9_keepImage_78, trivial⟩
def wX9_keepImage : WT := wT 3 kX9_keepImage
theorem uX9_keepImage : UM yX9_keepImage cX9_keepImage 3 (some .int) rX9_keepImage wX9_keepImage := UM.ofT rfl sX9_keepImage
theorem nX9_keepImage : ∀ av h (Q Q' : QT), (∀ r h, Q r h → Q' r h) → wX9_keepImage av h Q → wX9_keepImage av h Q' := wT_mono mX9_keepImage
def rX9_missesBy : Room := { frames := 7, cells := 2, slots := 12, locals := 121 }
def kX9_missesBy : List (Nat × Sem) := [(0, k_ldI 1 1),
  (1, k_push 3 (.int 98)),
  (3, k_ic 6 23 (fun x y => x = y)),
  (6, k_ldI 7 1),
  (7, k_call 10 1 0 0 2 12 wX9_isPolicy),
  (10, k_if 23 13 (fun x => x = 0)),
  (13, k_throw "java/lang/IllegalArgumentException" 2 12),
  (23, k_ldI 24 2),
  (24, k_push 25 (.int 1)),
  (25, k_push 27 (.int 16)),
  (27, k_call 30 3 1 6 2 12 wX9_checkRange),
  (30, k_ldA 31 0),
  (31, k_gR 34 13 5),
  (34, k_ldI 35 1),
  (35, k_ldI 36 2),
  (36, k_callV 39 3 11 0 0 2 12 wX7_misses),
  (39, k_retI 0 2 12)]
theorem mX9_missesBy : AllM kX9_missesBy := ⟨mono_ldI _ _, mono_push _ _, mono_ic _ _ _, mono_ldI _ _, mono_call _ _ _ _ _ _ _ nX9_isPolicy, mono_if _ _ _, mono_throw _ _ _, mono_ldI _ _, mono_push _ _, mono_push _ _, mono_call _ _ _ _ _ _ _ nX9_checkRange, mono_ldA _ _, mono_gR _ _ _, mono_ldI _ _, mono_ldI _ _, mono_callV _ _ _ _ _ _ _ _ nX7_misses, mono_retI _ _ _, trivial⟩
theorem sX9_missesBy : AllS yX9_missesBy cX9_missesBy 3 (some .int) rX9_missesBy kX9_missesBy := ⟨fun _ _ _ _ _ _ _ _ _ _ _ _ _ A hr hn hx => o_ldIn A rfl dX9_missesBy_0,
  fun _ _ _ _ _ _ _ _ _ _ _ _ _ A hr hn hx => o_bipush A (by decide) dX9_missesBy_1,
  fun _ _ _ _ _ _ _ _ _ _ _ _ _ A hr hn hx => o_ic_eq A (t := 23) (by decide) dX9_missesBy_3,
  fun _ _ _ _ _ _ _ _ _ _ _ _ _ A hr hn hx => o_ldIn A rfl dX9_missesBy_6,
  fun _ _ _ _ _ _ _ _ _ _ _ _ _ A hr hn hx => o_callS A (rm := rX9_isPolicy) uX9_isPolicy aw_720 rfl aw_718 aw_719 aw_1 (by decide) (by decide) (Nat.le_refl _) (Nat.le_refl _) (exc_out hx A.2.2.2.2.2.2.1) dX9_missesBy_7,
  fun _ _ _ _ _ _ _ _ _ _ _ _ _ A hr hn hx => o_if_ne A (t := 23) (by decide) dX9_missesBy_10,
  fun _ _ _ _ _ _ _ _ _ _ _ _ _ A hr hn hx => o_throw A (cls := "java/lang/IllegalArgumentException") (text := "no such policy") (ik := 133) (is := 135) (ic := 137) (by decide) thr_X9_137 sw_721 dX9_missesBy_13 dX9_missesBy_16 dX9_missesBy_17 dX9_missesBy_19 dX9_missesBy_22 hx (by decide) (by decide) (Nat.le_refl _) (Nat.le_refl _),
  fun _ _ _ _ _ _ _ _ _ _ _ _ _ A hr hn hx => o_ldIn A rfl dX9_missesBy_23,
  fun _ _ _ _ _ _ _ _ _ _ _ _ _ A hr hn hx => o_iconst A (by decide) dX9_missesBy_24,
  fun _ _ _ _ _ _ _ _ _ _ _ _ _ A hr hn hx => o_bipush A (by decide) dX9_missesBy_25,
  fun _ _ _ _ _ _ _ _ _ _ _ _ _ A hr hn hx => o_callS A (rm := rX9_checkRange) uX9_checkRange aw_625 rfl aw_623 aw_624 aw_1 (by decide) (by decide) (Nat.le_refl _) (Nat.le_refl _) (exc_out hx A.2.2.2.2.2.2.1) dX9_missesBy_27,
  fun _ _ _ _ _ _ _ _ _ _ _ _ _ A hr hn hx => o_ldAn A rfl dX9_missesBy_30,
  fun _ _ _ _ _ _ _ _ _ _ _ _ _ A hr hn hx => o_gR A (C := RX9) (T := TX9) (N := 16) (ci := 13) rfl (by decide) hinX9 rfl 5 (by decide) aw_279 (fun _ _ _ h => h) (fun _ _ _ => rfl) dX9_missesBy_31,
  fun _ _ _ _ _ _ _ _ _ _ _ _ _ A hr hn hx => o_ldIn A rfl dX9_missesBy_34,
  fun _ _ _ _ _ _ _ _ _ _ _ _ _ A hr hn hx => o_ldIn A rfl dX9_missesBy_35,
  fun _ _ _ _ _ _ _ _ _ _ _ _ _ A hr hn hx => o_callV A (rm := rX7_misses) (C := RX7) (T := TX7) (N := 6) (ci := 11) uX7_misses aw_430 rfl rfl (by decide) aw_427 aw_428 aw_429 aw_8 (by decide) (by decide) (Nat.le_refl _) (Nat.le_refl _) (exc_out hx A.2.2.2.2.2.2.1) dX9_missesBy_36,
  fun _ _ _ _ _ _ _ _ _ _ _ _ _ A hr hn hx => o_retI A hr okr_int dX9_missesBy_39, trivial⟩
def wX9_missesBy : WT := wT 3 kX9_missesBy
theorem uX9_missesBy : UM yX9_missesBy cX9_missesBy 3 (some .int) rX9_missesBy wX9_missesBy := UM.ofT rfl sX9_missesBy
theorem nX9_missesBy : ∀ av h (Q Q' : QT), (∀ r h, Q r h → Q' r h) → wX9_missesBy av h Q → wX9_missesBy av h Q' := wT_mono mX9_missesBy
def rX9_bitsOf : Room := { frames := 0, cells := 0, slots := 0, locals := 0 }
def kX9_bitsOf : List (Nat × Sem) := [(0, k_ldF 1 0),
  (1, k_push 2 (.float FP.fconst0)),
  (2, k_fcmp 3 .g),
  (3, k_if 6 8 (fun x => 0 < x)),
  (6, k_push 7 (.int 0)),
  (7, k_retI 0 0 0),
  (8, k_ldF 9 0),
  (9, k_stF 10 1),
  (10, k_push 12 (.int 127)),
  (12, k_stI 13 2),
  (13, k_push 14 (.int 0)),
  (14, k_stI 15 3),
  (15, k_ldI 16 3),
  (16, k_push 18 (.int 127)),
  (18, k_ic 21 40 (fun x y => y ≤ x)),
  (21, k_ldF 22 1),
  (22, k_push 23 (.float FP.fconst1)),
  (23, k_fcmp 24 .g),
  (24, k_if 27 40 (fun x => 0 ≤ x)),
  (27, k_ldF 28 1),
  (28, k_push 29 (.float FP.fconst2)),
  (29, k_bF 30 FP.fmul),
  (30, k_stF 31 1),
  (31, k_iinc 34 2 (-1)),
  (34, k_iinc 37 3 1),
  (37, k_goto 15),
  (40, k_ldF 41 1),
  (41, k_push 42 (.float FP.fconst1)),
  (42, k_bF 43 FP.fsub),
  (43, k_push 46 (.float 1258291200)),
  (46, k_bF 47 FP.fmul),
  (47, k_f2i 48),
  (48, k_stI 49 3),
  (49, k_ldI 50 2),
  (50, k_push 52 (.int 23)),
  (52, k_bI 53 (fun x y => x <<< (y &&& 31))),
  (53, k_ldI 54 3),
  (54, k_bI 55 (fun x y => x + y)),
  (55, k_retI 0 0 0)]
theorem mX9_bitsOf : AllM kX9_bitsOf := ⟨mono_ldF _ _, mono_push _ _, mono_fcmp _ _, mono_if _ _ _, mono_push _ _, mono_retI _ _ _, mono_ldF _ _, mono_stF _ _, mono_push _ _, mono_stI _ _, mono_push _ _, mono_stI _ _, mono_ldI _ _, mono_push _ _, mono_ic _ _ _, mono_ldF _ _, mono_push _ _, mono_fcmp _ _, mono_if _ _ _, mono_ldF _ _, mono_push _ _, mono_bF _ _, mono_stF _ _, mono_iinc _ _ _, mono_iinc _ _ _, mono_goto _, mono_ldF _ _, mono_push _ _, mono_bF _ _, mono_push _ _, mono_bF _ _, mono_f2i _, mono_stI _ _, mono_ldI _ _, mono_push _ _, mono_bI _ _, mono_ldI _ _, mono_bI _ _, mono_retI _ _ _, trivial⟩
theorem sX9_bitsOf : AllS yX9_bitsOf cX9_bitsOf 4 (some .int) rX9_bitsOf kX9_bitsOf := ⟨fun _ _ _ _ _ _ _ _ _ _ _ _ _ A hr hn hx => o_ldFn A rfl dX9_bitsOf_0,
  fun _ _ _ _ _ _ _ _ _ _ _ _ _ A hr hn hx => o_fconst0 A dX9_bitsOf_1,
  fun _ _ _ _ _ _ _ _ _ _ _ _ _ A hr hn hx => o_fcmp A dX9_bitsOf_2,
  fun _ _ _ _ _ _ _ _ _ _ _ _ _ A hr hn hx => o_if_gt A (t := 8) (by decide) dX9_bitsOf_3,
  fun _ _ _ _ _ _ _ _ _ _ _ _ _ A hr hn hx => o_iconst A (by decide) dX9_bitsOf_6,
  fun _ _ _ _ _ _ _ _ _ _ _ _ _ A hr hn hx => o_retI A hr okr_int dX9_bitsOf_7,
  fun _ _ _ _ _ _ _ _ _ _ _ _ _ A hr hn hx => o_ldFn A rfl dX9_bitsOf_8,
  fun _ _ _ _ _ _ _ _ _ _ _ _ _ A hr hn hx => o_stFn A rfl (by decide) dX9_bitsOf_9,
  fun _ _ _ _ _ _ _ _ _ _ _ _ _ A hr hn hx => o_bipush A (by decide) dX9_bitsOf_10,
  fun _ _ _ _ _ _ _ _ _ _ _ _ _ A hr hn hx => o_stIn A rfl (by decide) dX9_bitsOf_12,
  fun _ _ _ _ _ _ _ _ _ _ _ _ _ A hr hn hx => o_iconst A (by decide) dX9_bitsOf_13,
  fun _ _ _ _ _ _ _ _ _ _ _ _ _ A hr hn hx => o_stIn A rfl (by decide) dX9_bitsOf_14,
  fun _ _ _ _ _ _ _ _ _ _ _ _ _ A hr hn hx => o_ldIn A rfl dX9_bitsOf_15,
  fun _ _ _ _ _ _ _ _ _ _ _ _ _ A hr hn hx => o_bipush A (by decide) dX9_bitsOf_16,
  fun _ _ _ _ _ _ _ _ _ _ _ _ _ A hr hn hx => o_ic_ge A (t := 40) (by decide) dX9_bitsOf_18,
  fun _ _ _ _ _ _ _ _ _ _ _ _ _ A hr hn hx => o_ldFn A rfl dX9_bitsOf_21,
  fun _ _ _ _ _ _ _ _ _ _ _ _ _ A hr hn hx => o_fconst1 A dX9_bitsOf_22,
  fun _ _ _ _ _ _ _ _ _ _ _ _ _ A hr hn hx => o_fcmp A dX9_bitsOf_23,
  fun _ _ _ _ _ _ _ _ _ _ _ _ _ A hr hn hx => o_if_ge A (t := 40) (by decide) dX9_bitsOf_24,
  fun _ _ _ _ _ _ _ _ _ _ _ _ _ A hr hn hx => o_ldFn A rfl dX9_bitsOf_27,
  fun _ _ _ _ _ _ _ _ _ _ _ _ _ A hr hn hx => o_fconst2 A dX9_bitsOf_28,
  fun _ _ _ _ _ _ _ _ _ _ _ _ _ A hr hn hx => o_fmul A dX9_bitsOf_29,
  fun _ _ _ _ _ _ _ _ _ _ _ _ _ A hr hn hx => o_stFn A rfl (by decide) dX9_bitsOf_30,
  fun _ _ _ _ _ _ _ _ _ _ _ _ _ A hr hn hx => o_iinc A (by decide) (by decide) dX9_bitsOf_31,
  fun _ _ _ _ _ _ _ _ _ _ _ _ _ A hr hn hx => o_iinc A (by decide) (by decide) dX9_bitsOf_34,
  fun _ _ _ _ _ _ _ _ _ _ _ _ _ A hr hn hx => o_goto A (t := 15) (by decide) dX9_bitsOf_37,
  fun _ _ _ _ _ _ _ _ _ _ _ _ _ A hr hn hx => o_ldFn A rfl dX9_bitsOf_40,
  fun _ _ _ _ _ _ _ _ _ _ _ _ _ A hr hn hx => o_fconst1 A dX9_bitsOf_41,
  fun _ _ _ _ _ _ _ _ _ _ _ _ _ A hr hn hx => o_fsub A dX9_bitsOf_42,
  fun _ _ _ _ _ _ _ _ _ _ _ _ _ A hr hn hx => o_ldcfw A aw_1114 dX9_bitsOf_43,
  fun _ _ _ _ _ _ _ _ _ _ _ _ _ A hr hn hx => o_fmul A dX9_bitsOf_46,
  fun _ _ _ _ _ _ _ _ _ _ _ _ _ A hr hn hx => o_f2i A dX9_bitsOf_47,
  fun _ _ _ _ _ _ _ _ _ _ _ _ _ A hr hn hx => o_stIn A rfl (by decide) dX9_bitsOf_48,
  fun _ _ _ _ _ _ _ _ _ _ _ _ _ A hr hn hx => o_ldIn A rfl dX9_bitsOf_49,
  fun _ _ _ _ _ _ _ _ _ _ _ _ _ A hr hn hx => o_bipush A (by decide) dX9_bitsOf_50,
  fun _ _ _ _ _ _ _ _ _ _ _ _ _ A hr hn hx => o_ishl A dX9_bitsOf_52,
  fun _ _ _ _ _ _ _ _ _ _ _ _ _ A hr hn hx => o_ldIn A rfl dX9_bitsOf_53,
  fun _ _ _ _ _ _ _ _ _ _ _ _ _ A hr hn hx => o_iadd A dX9_bitsOf_54,
  fun _ _ _ _ _ _ _ _ _ _ _ _ _ A hr hn hx => o_retI A hr okr_int dX9_bitsOf_55, trivial⟩
def wX9_bitsOf : WT := wT 4 kX9_bitsOf
theorem uX9_bitsOf : UM yX9_bitsOf cX9_bitsOf 4 (some .int) rX9_bitsOf wX9_bitsOf := UM.ofT rfl sX9_bitsOf
theorem nX9_bitsOf : ∀ av h (Q Q' : QT), (∀ r h, Q r h → Q' r h) → wX9_bitsOf av h Q → wX9_bitsOf av h Q' := wT_mono mX9_bitsOf
def rX9_getHitBits : Room := { frames := 7, cells := 1, slots := 6, locals := 110 }
def kX9_getHitBits : List (Nat × Sem) := [(0, k_ldA 1 0),
  (1, k_callV 4 1 13 1 6 1 6 wX9_checkAccesses),
  (4, k_ldA 5 0),
  (5, k_callV 8 1 13 0 0 1 6 wX9_hitShare),
  (8, k_call 11 1 0 0 1 6 wX9_bitsOf),
  (11, k_retI 0 1 6)]
theorem mX9_getHitBits : AllM kX9_getHitBits := ⟨mono_ldA _ _, mono_callV _ _ _ _ _ _ _ _ nX9_checkAccesses, mono_ldA _ _, mono_callV _ _ _ _ _ _ _ _ nX9_hitShare, mono_call _ _ _ _ _ _ _ nX9_bitsOf, mono_retI _ _ _, trivial⟩
theorem sX9_getHitBits : AllS yX9_getHitBits cX9_getHitBits 1 (some .int) rX9_getHitBits kX9_getHitBits := ⟨fun _ _ _ _ _ _ _ _ _ _ _ _ _ A hr hn hx => o_ldAn A rfl dX9_getHitBits_0,
  fun _ _ _ _ _ _ _ _ _ _ _ _ _ A hr hn hx => o_callV A (rm := rX9_checkAccesses) (C := RX9) (T := TX9) (N := 16) (ci := 13) uX9_checkAccesses aw_1092 rfl rfl (by decide) aw_1089 aw_1091 aw_p27 aw_1 (by decide) (by decide) (Nat.le_refl _) (Nat.le_refl _) (exc_out hx A.2.2.2.2.2.2.1) dX9_getHitBits_1,
  fun _ _ _ _ _ _ _ _ _ _ _ _ _ A hr hn hx => o_ldAn A rfl dX9_getHitBits_4,
  fun _ _ _ _ _ _ _ _ _ _ _ _ _ A hr hn hx => o_callV A (rm := rX9_hitShare) (C := RX9) (T := TX9) (N := 16) (ci := 13) uX9_hitShare aw_1103 rfl rfl (by decide) aw_1100 aw_1102 aw_p28 aw_1 (by decide) (by decide) (Nat.le_refl _) (Nat.le_refl _) (exc_out hx A.2.2.2.2.2.2.1) dX9_getHitBits_5,
  fun _ _ _ _ _ _ _ _ _ _ _ _ _ A hr hn hx => o_callS A (rm := rX9_bitsOf) uX9_bitsOf aw_1113 rfl aw_1111 aw_1112 aw_1 (by decide) (by decide) (Nat.le_refl _) (Nat.le_refl _) (exc_out hx A.2.2.2.2.2.2.1) dX9_getHitBits_8,
  fun _ _ _ _ _ _ _ _ _ _ _ _ _ A hr hn hx => o_retI A hr okr_int dX9_getHitBits_11, trivial⟩
def wX9_getHitBits : WT := wT 1 kX9_getHitBits
theorem uX9_getHitBits : UM yX9_getHitBits cX9_getHitBits 1 (some .int) rX9_getHitBits wX9_getHitBits := UM.ofT rfl sX9_getHitBits
theorem nX9_getHitBits : ∀ av h (Q Q' : QT), (∀ r h, Q r h → Q' r h) → wX9_getHitBits av h Q → wX9_getHitBits av h Q' := wT_mono mX9_getHitBits
