/-! THE MACHINE AT THE LAW'S ENTRY: the cells outside -/
theorem scv_of (x : Int32) : scv x.toUInt32.toNat = x := by
  unfold scv
  rw [UInt32.ofNat_toNat]
  exact Int32.toInt32_toUInt32 x
def gaM (ad : Nat → Nat) (e7 b mi k0 v0 ca L : Nat) (xs : Nat → Int32) (n : Nat) : Nat := if n = 0 then 0 else if n ≤ 256 then ad (n - 1) else if n = 257 then e7 else if n = 258 then b else if n = 259 then mi else if n = 260 then k0 else if n = 261 then v0 else if n = 262 then ca else if n = 300 then L else (xs (n - 301)).toUInt32.toNat
theorem gaM_ad {ad : Nat → Nat} {e7 b mi k0 v0 ca L : Nat} {xs : Nat → Int32} {k : Nat} (h : k < 256) : gaM ad e7 b mi k0 v0 ca L xs (k + 1) = ad k := by
  unfold gaM
  rw [if_neg (by omega), if_pos (by omega), Nat.add_sub_cancel]
theorem gaM_xs {ad : Nat → Nat} {e7 b mi k0 v0 ca L : Nat} {xs : Nat → Int32} {k : Nat} : gaM ad e7 b mi k0 v0 ca L xs (301 + k) = (xs k).toUInt32.toNat := by
  unfold gaM
  rw [if_neg (by omega), if_neg (by omega), if_neg (by omega), if_neg (by omega), if_neg (by omega), if_neg (by omega), if_neg (by omega), if_neg (by omega), if_neg (by omega), Nat.add_sub_cancel_left]
theorem gx_start {b L : Nat} {s : State} {xs : Nat → Int32} (hts : ∀ w ∈ lw_tbl, w.before #[Value.ref b] s = true) (hg : Giv b s) (hX : va_X b L xs s s.heap) (hL : L ≤ 2048) (hbl : b < s.heap.size) : ∃ g : Gc, GX g s ∧ gB g = s.heap.size ∧ gH g = s.heap ∧ ScrG g (L, xs) ∧ ga g 258 = b := by
  have hA : ∀ a : Nat, a < s.heap.size → ¬ (fun q : Nat => s.heap.size ≤ q) a := fun a ha => Nat.not_le.mpr ha
  obtain ⟨D, hD⟩ := kn_all hts
  obtain ⟨dA, hdA⟩ := ar_all hts
  -- the cache of Integers
  obtain ⟨ad, c1, c2⟩ := vb_Cof (A := fun q : Nat => s.heap.size ≤ q) (st := .static "java/lang/Integer$IntegerCache" "cache" "[Ljava/lang/Integer;") rfl (va_eqt (gv (i := 13) hg (by decide +kernel))) (gv (i := 14) hg (by decide +kernel)) hA
  obtain ⟨ca, a1, a2⟩ := va_Tof (A := fun q : Nat => s.heap.size ≤ q) (tm := .static "java/lang/Integer$IntegerCache" "cache" "[Ljava/lang/Integer;") (ty := .object "java/lang/Integer") (N := 256) (f := fun k => .ref (ad k)) (by decide) (gv (i := 12) hg (by decide +kernel)) (va_eqt (gv (i := 13) hg (by decide +kernel))) c2 hA
  -- the lists' empty array
  obtain ⟨e7, e1, e2⟩ := va_Tof (A := fun q : Nat => s.heap.size ≤ q) (tm := .static "java/util/ArrayList" "DEFAULTCAPACITY_EMPTY_ELEMENTDATA" "[Ljava/lang/Object;") (ty := .object "java/lang/Object") (N := 0) (f := fun _ => .null) (by decide) (gv (i := 7) hg (by decide +kernel)) (va_eqt (gv (i := 9) hg (by decide +kernel))) (fun j hj => absurd hj (Nat.not_lt_zero _)) hA
  -- the class object
  obtain ⟨mi, m1⟩ := va_Mi.of (C := "[Ljava/lang/Object;") (gv (i := 237) hg (by decide +kernel))
  -- the text
  obtain ⟨adK, adV, t1, t2⟩ := vk_Sof (A := fun q : Nat => s.heap.size ≤ q) (N := 1) (tm := fun _ => .string "WritebackModel" 312) (len := [4]) (byt := [[108, 102, 99, 98]]) (fun i hi => by
      have : i = 0 := by omega
      subst this
      decide) (fun _ _ => gv (i := 1025) hg (by decide +kernel)) (fun _ _ => gv (i := 1026) hg (by decide +kernel)) (fun _ _ => gv (i := 1027) hg (by decide +kernel)) (fun i hi => by
      have : i = 0 := by omega
      subst this
      exact gv (i := 1028) hg (by decide +kernel)) (fun i hi j hj => by
      have : i = 0 := by omega
      subst this
      have hj : j < 4 := hj
      rcases (by omega : j = 0 ∨ j = 1 ∨ j = 2 ∨ j = 3) with q | q | q | q <;> subst q
      · exact gv (i := 1029) hg (by decide +kernel)
      · exact gv (i := 1030) hg (by decide +kernel)
      · exact gv (i := 1031) hg (by decide +kernel)
      · exact gv (i := 1032) hg (by decide +kernel)) (fun i j hi hj h => absurd (show i = j by omega) h) hA
  have g262 : ∀ {x : Nat}, gaM ad e7 b mi (adK 0) (adV 0) ca L xs 262 = x ↔ ca = x := fun {x} => Iff.rfl
  have fc : (fun k => (Value.ref (gaM ad e7 b mi (adK 0) (adV 0) ca L xs (k + 1)))) = fun k => Value.ref (gaM ad e7 b mi (adK 0) (adV 0) ca L xs (k + 1)) := rfl
  refine ⟨(D, dA, s.heap.size, s.heap, gaM ad e7 b mi (adK 0) (adV 0) ca L xs), ⟨⟨hD, hdA⟩, ge_all hts hg hA, rfl, fun w hw => va_Nw.of (okOW_tab (List.mem_filter.mp hw).2) (hts w (List.mem_filter.mp hw).1), nc_all hg, fun own k tx hw => str_ref (hts _ hw), ?_⟩, rfl, rfl, ⟨rfl, fun k hk => ?_⟩, rfl⟩
  · refine ⟨⟨fun k hk => ?_, fun k hk => ?_⟩, va_Zof (hts _ (tb (i := 1259) (by decide +kernel))) (hts _ (tb (i := 23) (by decide +kernel))) (va_eqi (gv (i := 10) hg (by decide +kernel))) hA, va_Zof (hts _ (tb (i := 1261) (by decide +kernel))) (hts _ (tb (i := 23) (by decide +kernel))) a1 hA, ?_, va_Zof (hts _ (tb (i := 1141) (by decide +kernel))) (hts _ (tb (i := 13) (by decide +kernel))) e1 hA, e2, ⟨?_, hL⟩, m1, va_Dc.of (hts _ (tb (i := 1869) (by decide +kernel))), va_Zof (hts _ (tb (i := 1726) (by decide +kernel))) (hts _ (tb (i := 19) (by decide +kernel))) (va_eqi (gv (i := 15) hg (by decide +kernel))) hA, ⟨fun i hi => ?_, fun i j hi hj _ => by omega⟩, ?_⟩
    · show va_O "java/lang/Integer" (gaM ad e7 b mi (adK 0) (adV 0) ca L xs (k + 1)) _ s s.heap
      rw [gaM_ad hk]
      exact c1.1 k hk
    · show va_OF "java/lang/Integer" "value" "I" _ (gaM ad e7 b mi (adK 0) (adV 0) ca L xs (k + 1)) _ s s.heap
      rw [gaM_ad hk]
      exact c1.2 k hk
    · obtain ⟨cell, h1, h2, h3, h4, h5, h6, h7⟩ := a2
      refine ⟨cell, h1, h2, h3, h4, h5, fun j hj => ?_, h7⟩
      show cell.slots[j]? = some (Value.ref (gaM ad e7 b mi (adK 0) (adV 0) ca L xs (j + 1)))
      rw [gaM_ad hj]
      exact h6 j hj
    · obtain ⟨scr, x1, x2, x3, x4, x5⟩ := hX
      refine ⟨scr, x1, x2, x3, Nat.le_of_eq x4.symm, by rw [x4]; rfl, fun j hj => ?_, Nat.not_le.mpr hbl⟩
      show scr.slots[j]? = some (Value.int (scv (gaM ad e7 b mi (adK 0) (adV 0) ca L xs (301 + j))))
      rw [gaM_xs, scv_of]
      exact x5 j hj
    · have : i = 0 := by omega
      subst this
      exact t1.1 0 (by decide)
    · obtain ⟨a, z⟩ := str_ref (own := "WritebackModel") (k := 312) (tx := "lfcb") (hts _ (tb (i := 1712) (by decide +kernel)))
      refine ⟨z.1, ?_⟩
      have e := z.2
      have t := t2 0 (by decide)
      show (Term.string "WritebackModel" 312).eval #[] s none [] s = some (Value.ref (adK 0))
      simpa only [Term.eval] using t
  · show scv (gaM ad e7 b mi (adK 0) (adV 0) ca L xs (301 + k)) = xs k
    rw [gaM_xs, scv_of]
