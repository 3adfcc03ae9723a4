/-! THE MACHINE AT THE LAW'S ENTRY: the fixed things of the run -/
theorem tb {i : Nat} {w : Cond} (h : tables_1[i]? = some w) : w ∈ lw_tbl := List.mem_append_right _ (List.mem_of_getElem? h)
theorem aw_tbl {w : Cond} (h : w ∈ AW) : w ∈ lw_tbl := (List.mem_filter.mp h).1
section GST
variable {b : Nat} {s : State}
theorem hinJ0 : ∀ w ∈ u_ws RJ0 TJ0 2, w ∈ lw_tbl := by
  intro w hw
  obtain ⟨k, hk, rfl⟩ := List.mem_map.mp hw
  rw [List.mem_range] at hk
  exact (lt_s (p := fun k => u_lay RJ0 TJ0 k ∈ lw_tbl) (lt_s (p := fun k => u_lay RJ0 TJ0 k ∈ lw_tbl) lt_0 (tb (i := 568) (by decide +kernel))) (tb (i := 570) (by decide +kernel))) k hk
theorem hinJ6 : ∀ w ∈ u_ws RJ6 TJ6 1, w ∈ lw_tbl := by
  intro w hw
  obtain ⟨k, hk, rfl⟩ := List.mem_map.mp hw
  rw [List.mem_range] at hk
  exact (lt_s (p := fun k => u_lay RJ6 TJ6 k ∈ lw_tbl) lt_0 (tb (i := 1272) (by decide +kernel))) k hk
theorem hinJx : ∀ w ∈ u_ws RJx00060 TJx00060 6, w ∈ lw_tbl := by
  intro w hw
  obtain ⟨k, hk, rfl⟩ := List.mem_map.mp hw
  rw [List.mem_range] at hk
  exact (lt_s (p := fun k => u_lay RJx00060 TJx00060 k ∈ lw_tbl) (lt_s (p := fun k => u_lay RJx00060 TJx00060 k ∈ lw_tbl) (lt_s (p := fun k => u_lay RJx00060 TJx00060 k ∈ lw_tbl) (lt_s (p := fun k => u_lay RJx00060 TJx00060 k ∈ lw_tbl) (lt_s (p := fun k => u_lay RJx00060 TJx00060 k ∈ lw_tbl) (lt_s (p := fun k => u_lay RJx00060 TJx00060 k ∈ lw_tbl) lt_0 (tb (i := 534) (by decide +kernel))) (tb (i := 536) (by decide +kernel))) (tb (i := 538) (by decide +kernel))) (tb (i := 540) (by decide +kernel))) (tb (i := 542) (by decide +kernel))) (tb (i := 544) (by decide +kernel))) k hk
theorem kn_all (hts : ∀ w ∈ lw_tbl, w.before #[Value.ref b] s = true) : ∃ D : va_G, ∀ (c : Nat) (q : vw_C), vwCl[c]? = some q → u_Kn s q.1 q.2.1 q.2.2 (D.1 c) (D.2 c) := by
  have h : ∀ c : Nat, ∃ (cC : ClassId) (iS : Nat → Nat), ∀ q : vw_C, vwCl[c]? = some q → u_Kn s q.1 q.2.1 q.2.2 cC iS := fun c => match c with
    | 0 => by
      obtain ⟨cC, iS, h⟩ := u_known (C := RJ0) (T := TJ0) (N := 2) (n := 4) hts (hinJ0) (hts _ (tb (i := 566) (by decide +kernel)))
      exact ⟨cC, iS, fun q hq => by cases hq; exact h⟩
    | 1 => by
      obtain ⟨cC, iS, h⟩ := u_known (C := RJ6) (T := TJ6) (N := 1) (n := 1) hts (hinJ6) (hts _ (tb (i := 1263) (by decide +kernel)))
      exact ⟨cC, iS, fun q hq => by cases hq; exact h⟩
    | 2 => by
      obtain ⟨cC, iS, h⟩ := u_known (C := RJx00060) (T := TJx00060) (N := 6) (n := 6) hts (hinJx) (hts _ (tb (i := 493) (by decide +kernel)))
      exact ⟨cC, iS, fun q hq => by cases hq; exact h⟩
    | 3 => by
      obtain ⟨cC, iS, h⟩ := u_known (C := RJx4a65c) (T := TJx4a65c) (N := 3) (n := 3) hts (fun w h => aw_tbl (hinJx4a65c w h)) (hts _ (aw_tbl aw_1129))
      exact ⟨cC, iS, fun q hq => by cases hq; exact h⟩
    | 4 => by
      obtain ⟨cC, iS, h⟩ := u_known (C := RX0) (T := TX0) (N := 5) (n := 5) hts (fun w h => aw_tbl (hinX0 w h)) (hts _ (aw_tbl aw_249))
      exact ⟨cC, iS, fun q hq => by cases hq; exact h⟩
    | 5 => by
      obtain ⟨cC, iS, h⟩ := u_known (C := RX1) (T := TX1) (N := 6) (n := 6) hts (fun w h => aw_tbl (hinX1 w h)) (hts _ (aw_tbl aw_51))
      exact ⟨cC, iS, fun q hq => by cases hq; exact h⟩
    | 6 => by
      obtain ⟨cC, iS, h⟩ := u_known (C := RX2) (T := TX2) (N := 3) (n := 3) hts (fun w h => aw_tbl (hinX2 w h)) (hts _ (aw_tbl aw_81))
      exact ⟨cC, iS, fun q hq => by cases hq; exact h⟩
    | 7 => by
      obtain ⟨cC, iS, h⟩ := u_known (C := RX3) (T := TX3) (N := 13) (n := 13) hts (fun w h => aw_tbl (hinX3 w h)) (hts _ (aw_tbl aw_107))
      exact ⟨cC, iS, fun q hq => by cases hq; exact h⟩
    | 8 => by
      obtain ⟨cC, iS, h⟩ := u_known (C := RX4) (T := TX4) (N := 3) (n := 3) hts (fun w h => aw_tbl (hinX4 w h)) (hts _ (aw_tbl aw_997))
      exact ⟨cC, iS, fun q hq => by cases hq; exact h⟩
    | 9 => by
      obtain ⟨cC, iS, h⟩ := u_known (C := RX5) (T := TX5) (N := 3) (n := 3) hts (fun w h => aw_tbl (hinX5 w h)) (hts _ (aw_tbl aw_184))
      exact ⟨cC, iS, fun q hq => by cases hq; exact h⟩
    | 10 => by
      obtain ⟨cC, iS, h⟩ := u_known (C := RX6) (T := TX6) (N := 4) (n := 4) hts (fun w h => aw_tbl (hinX6 w h)) (hts _ (aw_tbl aw_100))
      exact ⟨cC, iS, fun q hq => by cases hq; exact h⟩
    | 11 => by
      obtain ⟨cC, iS, h⟩ := u_known (C := RX7) (T := TX7) (N := 6) (n := 6) hts (fun w h => aw_tbl (hinX7 w h)) (hts _ (aw_tbl aw_222))
      exact ⟨cC, iS, fun q hq => by cases hq; exact h⟩
    | 12 => by
      obtain ⟨cC, iS, h⟩ := u_known (C := RX8) (T := TX8) (N := 3) (n := 3) hts (fun w h => aw_tbl (hinX8 w h)) (hts _ (aw_tbl aw_204))
      exact ⟨cC, iS, fun q hq => by cases hq; exact h⟩
    | 13 => by
      obtain ⟨cC, iS, h⟩ := u_known (C := RX9) (T := TX9) (N := 16) (n := 16) hts (fun w h => aw_tbl (hinX9 w h)) (hts _ (aw_tbl aw_42))
      exact ⟨cC, iS, fun q hq => by cases hq; exact h⟩
    | 14 => by
      obtain ⟨cC, iS, h⟩ := u_known (C := RX10) (T := TX10) (N := 3) (n := 3) hts (fun w h => aw_tbl (hinX10 w h)) (hts _ (aw_tbl aw_1645))
      exact ⟨cC, iS, fun q hq => by cases hq; exact h⟩
    | 15 => by
      obtain ⟨cC, iS, h⟩ := u_known (C := RX11) (T := TX11) (N := 12) (n := 12) hts (fun w h => aw_tbl (hinX11 w h)) (hts _ (aw_tbl aw_1486))
      exact ⟨cC, iS, fun q hq => by cases hq; exact h⟩
    | 16 => by
      obtain ⟨cC, iS, h⟩ := u_known (C := RX12) (T := TX12) (N := 29) (n := 29) hts (fun w h => aw_tbl (hinX12 w h)) (hts _ (aw_tbl aw_1123))
      exact ⟨cC, iS, fun q hq => by cases hq; exact h⟩
    | c + 17 => ⟨0, fun _ => 0, fun q hq => by
      have e : vwCl[c + 17]? = none := List.getElem?_eq_none (Nat.le_add_left 17 c)
      rw [e] at hq
      cases hq⟩
  obtain ⟨f, hf⟩ := Classical.axiomOfChoice h
  obtain ⟨g, hg⟩ := Classical.axiomOfChoice hf
  exact ⟨(f, g), hg⟩
theorem ar_prim (hts : ∀ w ∈ lw_tbl, w.before #[Value.ref b] s = true) {ty : FieldType} (h : Cond.arrayClass ty ∈ lw_tbl) : ∃ cA : ClassId, ArrOfT s cA ty ∧ s.vm.findClass ("[" ++ ty.toString) = some cA := by
  obtain ⟨c, k, comp, h1, h2, h3⟩ := Cond.arrayClass_spec (hts _ h)
  exact ⟨c, fun n z => ⟨fun k h => (by cases h), k, h2, comp, h3⟩, h1⟩
theorem ar_obj (hts : ∀ w ∈ lw_tbl, w.before #[Value.ref b] s = true) {C : String} (h : Cond.arrayOver (.object C) ∈ lw_tbl) : ∃ cA : ClassId, ArrOfT s cA (.object C) ∧ va_RA s cA (.object C) := by
  obtain ⟨comp, c, k, h1, h2, h3, h4, h5⟩ := Cond.arrayOver_spec (hts _ h)
  exact ⟨c, fun n z => ⟨fun k h => (by cases h), k, h3, comp, h4⟩, k, comp, h3, h4, h1, h5⟩
theorem ar_all (hts : ∀ w ∈ lw_tbl, w.before #[Value.ref b] s = true) : ∃ dA : Nat → ClassId, ∀ (k : Nat) (q : ClassId × FieldType), (tysA dA)[k]? = some q → ArrOfT s q.1 q.2 ∧ va_RA s q.1 q.2 := by
  obtain ⟨a0, x0, y0⟩ := ar_prim hts (ty := .int) (tb (i := 79) (by decide +kernel))
  obtain ⟨a1, x1, y1⟩ := ar_prim hts (ty := .long) (tb (i := 323) (by decide +kernel))
  obtain ⟨a2, x2, y2⟩ := ar_prim hts (ty := .boolean) (tb (i := 202) (by decide +kernel))
  obtain ⟨a3, x3, y3⟩ := ar_prim hts (ty := .double) (tb (i := 1840) (by decide +kernel))
  obtain ⟨a4, x4, y4⟩ := ar_obj hts (C := "Writeback$Device") (tb (i := 50) (by decide +kernel))
  obtain ⟨a5, x5, y5⟩ := ar_obj hts (C := "Writeback$Frame") (tb (i := 106) (by decide +kernel))
  obtain ⟨a6, x6, y6⟩ := ar_obj hts (C := "Writeback$Image") (tb (i := 273) (by decide +kernel))
  obtain ⟨a7, x7, y7⟩ := ar_obj hts (C := "WritebackModel$Page") (tb (i := 1155) (by decide +kernel))
  obtain ⟨a8, x8, y8⟩ := ar_obj hts (C := "java/lang/Object") (tb (i := 1332) (by decide +kernel))
  refine ⟨fun k => match k with | 0 => a0 | 1 => a1 | 2 => a2 | 3 => a3 | 4 => a4 | 5 => a5 | 6 => a6 | 7 => a7 | _ => a8, fun k q hq => ?_⟩
  match k, hq with
  | 0, hq => cases hq; exact ⟨x0, y0⟩
  | 1, hq => cases hq; exact ⟨x1, y1⟩
  | 2, hq => cases hq; exact ⟨x2, y2⟩
  | 3, hq => cases hq; exact ⟨x3, y3⟩
  | 4, hq => cases hq; exact ⟨x4, y4⟩
  | 5, hq => cases hq; exact ⟨x5, y5⟩
  | 6, hq => cases hq; exact ⟨x6, y6⟩
  | 7, hq => cases hq; exact ⟨x7, y7⟩
  | 8, hq => cases hq; exact ⟨x8, y8⟩
  | k + 9, hq => cases hq
/-- what the statement gives of the start -/
abbrev Giv (b : Nat) (s : State) : Prop := (Jvm.Cond.and given_1 narrow_1).before #[Value.ref b] s = true
theorem gv {i : Nat} {w : Cond} (h : Giv b s) (e : (flatC (Jvm.Cond.and given_1 narrow_1))[i]? = some w) : w.before #[Value.ref b] s = true := flat_of_before _ h _ (List.mem_of_getElem? e)
theorem ge_all (hts : ∀ w ∈ lw_tbl, w.before #[Value.ref b] s = true) (hg : Giv b s) {A : Nat → Prop} (hA : ∀ a : Nat, a < s.heap.size → ¬ A a) : vx_Zq Bundle.tN "UNASSIGNED_STACK" Bundle.steD A s s.heap ∧ vx_Zq Bundle.tN "SUPPRESSED_SENTINEL" Bundle.listD A s s.heap ∧ va_AO "Writeback$Device" s ∧ va_AO "Writeback$Frame" s ∧ va_AO "Writeback$Image" s ∧ va_AO "WritebackModel$Page" s ∧ va_AO "java/lang/Object" s :=
  ⟨vx_Zqof (hts _ (tb (i := 510) (by decide +kernel))) (hts _ (tb (i := 14) (by decide +kernel))) (gv (i := 4) hg (by decide +kernel)) hA, vx_Zqof (hts _ (tb (i := 512) (by decide +kernel))) (hts _ (tb (i := 14) (by decide +kernel))) (gv (i := 5) hg (by decide +kernel)) hA, va_AO.of (hts _ (tb (i := 50) (by decide +kernel))), va_AO.of (hts _ (tb (i := 106) (by decide +kernel))), va_AO.of (hts _ (tb (i := 273) (by decide +kernel))), va_AO.of (hts _ (tb (i := 1155) (by decide +kernel))), va_AO.of (hts _ (tb (i := 1332) (by decide +kernel)))⟩
theorem nc_all (hg : Giv b s) : ∀ q ∈ NCL, va_Nc q.1 q.2 s := by
  unfold NCL
  refine List.forall_mem_cons.mpr ⟨va_Nc.of (gv (i := 34) hg (by decide +kernel)), List.forall_mem_cons.mpr ⟨va_Nc.of (gv (i := 76) hg (by decide +kernel)), List.forall_mem_cons.mpr ⟨va_Nc.of (gv (i := 31) hg (by decide +kernel)), List.forall_mem_cons.mpr ⟨va_Nc.of (gv (i := 74) hg (by decide +kernel)), List.forall_mem_cons.mpr ⟨va_Nc.of (gv (i := 95) hg (by decide +kernel)), List.forall_mem_cons.mpr ⟨va_Nc.of (gv (i := 33) hg (by decide +kernel)), List.forall_mem_cons.mpr ⟨va_Nc.of (gv (i := 36) hg (by decide +kernel)), fun q hq => by cases hq⟩⟩⟩⟩⟩⟩⟩
theorem str_ref {own tx : String} {k : Nat} {A : Array Value} (h : (Cond.stringRef own k tx).before A s = true) : ∃ a, vk_R own k tx a s := by
  have hb : (Cond.stringRef own k tx).before #[] s = true := by
    simpa only [Cond.before, Cond.holds, Cond.value] using h
  cases e : s.vm.findClass own with
  | none =>
    exfalso
    have h2 : (Cond.stringRef own k tx).holds #[] s none s [] = true := hb
    simp only [Cond.holds, Cond.value, e, Option.map_none] at h2
    exact absurd h2 (by decide)
  | some cur =>
    obtain ⟨k', cf, i, a, -, -, -, -, -, hev⟩ := Cond.stringRef_spec e hb
    exact ⟨a, vk_R.of hb hev⟩
end GST
