/-! THE BITS OF A SHARE: doubling is exact -/
theorem v_two : FP.Core.val32 FP.fconst2 = .fin false 8388608 (-22) := by decide +kernel
theorem f_dbl {x : UInt32} {c : Nat} {q : Int} (e : FP.Core.val32 x = .fin false c q) (h1 : 8388608 ≤ c) (h2 : c < 16777216) (h3 : -149 ≤ q) (h4 : q ≤ 0) : FP.Core.val32 (FP.fmul x FP.fconst2) = .fin false c (q + 1) := by
  have v : FP.Core.val32 (FP.fmul x FP.fconst2) = FP.Core.round FP.Core.b32 (FP.Core.exactProduct (FP.Core.val32 x) (FP.Core.val32 FP.fconst2)) := FP.Core.val32_fmul x FP.fconst2
  rw [v, e, v_two]
  show FP.Core.roundRatio FP.Core.b32 false (c * 8388608) 1 (q + -22) = _
  have e1 : (q + -22 - (q + 1)).toNat = 0 := by omega
  have e2 : (q + 1 - (q + -22)).toNat = 23 := by omega
  refine FP.Core.roundRatio_exact FP.Core.good_b32 (by decide) ⟨by show c < 16777216; exact h2, by show (-149 : Int) ≤ q + 1; omega, by show q + 1 ≤ (104 : Int); omega, Or.inr ?_⟩ ?_
  · show 8388608 ≤ c
    exact h1
  · rw [e1, e2]
    omega
