/-! THE HOUSE KEPT by the last methods -/
theorem House_pin {h : CH} {x y : Int32} (hH : House h) : House (cPin h x y).1 := by
  unfold cPin
  split
  · exact hH
  · split
    · exact hH
    · exact House_sI hH (OkC_of (by omega)) (by omega)
theorem House_unpin {h : CH} {x y : Int32} (hH : House h) : House (cUnpin h x y).1 := by
  unfold cUnpin
  split
  · exact hH
  · split
    · exact hH
    · split
      · exact hH
      · exact House_sI hH (OkC_of (by omega)) (by omega)
theorem House_limit {h : CH} {x : Int32} (hH : House h) : House (cSetI h 11 1 16 x).1 := by
  unfold cSetI
  split
  · exact hH
  · exact House_sI hH (OkC_of (by omega)) (by omega)
theorem House_window {h : CH} {x : Int32} (hH : House h) : House (cSetI h 12 0 4 x).1 := by
  unfold cSetI
  split
  · exact hH
  · exact House_sI hH (OkC_of (by omega)) (by omega)
theorem OkC_ten {n : Nat} (h : n < 3) : OkC 300 13 (nI n) :=
  ⟨fun q => absurd q (by omega), fun q => absurd q (by omega), fun _ => ⟨n, h, rfl⟩, fun q => absurd q (by omega), fun q => absurd q (by omega), fun q => absurd q (by omega), fun q => absurd q (by omega), fun q => absurd q (by omega)⟩
theorem House_tenant {h : CH} {x : Int32} (hH : House h) : House (cSetI h 13 0 2 x).1 := by
  unfold cSetI
  split
  · exact hH
  · next c =>
    obtain ⟨j, hj, e⟩ := nI_of2 (x := x) (M := 2) (n := 2) (by decide) (fun z => c (Or.inl z)) (Int32.not_lt.mp (fun z => c (Or.inr z)))
    subst e
    exact House_sI hH (OkC_ten (by omega)) (by omega)
theorem House_take {h : CH} {d a b : Nat} (hd : d < 2) (hH : House h) : ∀ n, House (cTake h (302 + 4 * d) a b n)
  | 0 => hH
  | n + 1 => House_sI (House_sI (House_take hd hH n) (OkC_of (by omega)) (by omega)) (OkC_of (by omega)) (by omega)
theorem House_layBack {h : CH} {x y : Int32} (hH : House h) : House (cLayBack h x y).1 := by
  unfold cLayBack
  split
  · exact hH
  · split
    · exact hH
    · next c =>
      split
      · exact hH
      · obtain ⟨j, hj, e⟩ := nI_of2 (x := y) (M := 2) (n := 2) (by decide) (fun z => c (Or.inl z)) (Int32.le_of_lt (Int32.not_le.mp (fun z => c (Or.inr z))))
        have hj2 : j < 2 := by
          rcases Nat.lt_or_ge j 2 with q | q
          · exact q
          · exact absurd (Or.inr (by rw [e]; exact nI_le (a := 2) q (by omega))) c
        rw [e, nI_clamp (by omega)]
        exact House_take hj2 (House_fgt (House_dropS hH) 64) 64
/-- a device's count of files -/
def DevC (h : CH) : Prop := ∀ d, d < 2 → ∃ c, c ≤ 4 ∧ hI h (302 + 4 * d) 5 = nI c
