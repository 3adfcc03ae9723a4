/-! THE BITS OF A SHARE: doubling is exact -/
theorem v_two : FP.Core.val32 FP.fconst2 = .fin false 8388608 (-22) := by decide +kernel
theorem f_dbl {x : UInt32} {c : Nat} {q : Int} (e : FP.Core.val32 x = .fin false c q) (h1 : 8388608 ≤ c) (h2 : c < 16777216) (h3 : -149 ≤ q) (h4 : q ≤ 0) : FP.Core.val32 (FP.fmul x FP.fconst2) = .fin false c (q + 1) := by
  have v : FP.Core.val32 (FP.fmul x FP.fconst2) = FP.Core.round FP.Core.b32 (FP.Core.exactProduct (FP.Core.val32 x) (FP.Core.val32 FP.fconst2)) := FP.Core.val32_fmul x FP.fconst2
  rw [v, e, v_two]
  show FP.Core.roundRatio FP.Core.b32 false (c * 8388608) 1 (q + -22) = _
  have e1 : (q + -22 - (q + 1)).toNat = 0 := by omega
  have e2 : (q + 1 - (q + -22)).toNat = 23 := by omega
  refine FP.Core.roundRatio_exact FP.Core.good_b32 (by decide) ⟨by show c < 16777216; exact h2, by show (-149 : Int) ≤ q + 1; omega, by show q + 1 ≤ (104 : Int); omega, Or.inr ?_⟩ ?_
  · show 8388608 ≤ c
    exact h1
  · rw [e1, e2]
    omega
theorem v_one : FP.Core.val32 FP.fconst1 = .fin false 8388608 (-23) := by decide +kernel
theorem v_mant : FP.Core.val32 1258291200 = .fin false 8388608 0 := by decide +kernel
theorem f_frac {x : UInt32} {c : Nat} (e : FP.Core.val32 x = .fin false c (-23)) (h1 : 8388608 ≤ c) (h2 : c < 16777216) : FP.f2i (FP.fmul (FP.fsub x FP.fconst1) 1258291200) = nI (c - 8388608) := by
  have v : FP.Core.val32 (FP.fsub x FP.fconst1) = FP.Core.round FP.Core.b32 (FP.Core.exactSum (FP.Core.val32 x) (FP.Core.negate (FP.Core.val32 FP.fconst1))) := FP.Core.val32_fsub x FP.fconst1
  have u : FP.Core.sumUnits false c (-23) true 8388608 (-23) (-23) = ((c - 8388608 : Nat) : Int) := by
    show (FP.Core.inUnits c (-23) (-23) : Int) + -(FP.Core.inUnits 8388608 (-23) (-23) : Int) = _
    have i1 : ∀ d, FP.Core.inUnits d (-23) (-23) = d := fun d => Nat.mul_one d
    rw [i1, i1]
    omega
  have s : FP.Core.exactSum (.fin false c (-23)) (.fin true 8388608 (-23)) = .fin false (c - 8388608) (-23) := by
    show FP.Core.Datum.fin (FP.Core.sumSign false true (FP.Core.sumUnits false c (-23) true 8388608 (-23) (-23))) (FP.Core.sumUnits false c (-23) true 8388608 (-23) (-23)).natAbs (-23) = _
    rw [u]
    have sg : FP.Core.sumSign false true ((c - 8388608 : Nat) : Int) = false := by
      unfold FP.Core.sumSign
      split
      · rfl
      · exact decide_eq_false (by omega)
    rw [sg, Int.natAbs_natCast]
  rw [e, v_one] at v
  rw [show FP.Core.negate (.fin false 8388608 (-23)) = .fin true 8388608 (-23) from rfl, s] at v
  have hm : c - 8388608 < 8388608 := by omega
  generalize c - 8388608 = m at v hm ⊢
  obtain ⟨c', q', r1, r2⟩ := FP.Core.round_exact (f := FP.Core.b32) FP.Core.good_b32 false (c := m) (q := -23) (by show m < 16777216; omega) (by decide) (by decide)
  rw [r1] at v
  have v2 : FP.Core.val32 (FP.fmul (FP.fsub x FP.fconst1) 1258291200) = FP.Core.round FP.Core.b32 (FP.Core.exactProduct (FP.Core.val32 (FP.fsub x FP.fconst1)) (FP.Core.val32 1258291200)) := FP.Core.val32_fmul _ _
  rw [v, v_mant] at v2
  have fit := FP.Core.val32_i2f (nI m)
  have em : (nI m).toInt = m := nI_toInt (by omega)
  have o : FP.Core.ofInt (nI m).toInt = .fin false m 0 := by
    rw [em]
    show FP.Core.Datum.fin (decide ((m : Int) < 0)) (m : Int).natAbs 0 = _
    rw [decide_eq_false (by omega), Int.natAbs_natCast]
  rw [o] at fit
  have ff := FP.Core.round_fits FP.Core.good_b32 (.fin false m (-23))
  rw [r1] at ff
  obtain ⟨-, g1, -, -⟩ := ff
  have g2 : (-149 : Int) ≤ q' := g1
  have r3 : c' * 2 ^ (q' - (-149)).toNat = m * 2 ^ ((-23 : Int) - (-149)).toNat := r2
  have key : c' * 8388608 * 1 * 2 ^ (q' + 0 - 0).toNat = m * 1 * 2 ^ (0 - (q' + 0)).toNat := by
    rw [show ((-23 : Int) - (-149)).toNat = 126 by decide] at r3
    by_cases cq : 0 ≤ q'
    · rw [show (q' - (-149)).toNat = q'.toNat + 149 by omega, Nat.pow_add] at r3
      have p1 : 1 ≤ 2 ^ q'.toNat := Nat.one_le_two_pow
      have p2 : m * 2 ^ 126 < 8388608 * 2 ^ 126 := Nat.mul_lt_mul_of_pos_right hm (Nat.two_pow_pos _)
      have p3 : 8388608 * 2 ^ 126 = 2 ^ 149 := by decide +kernel
      have c0 : c' = 0 := by
        rcases Nat.eq_zero_or_pos c' with z | z
        · exact z
        · have p4 : 1 * (1 * 2 ^ 149) ≤ c' * (2 ^ q'.toNat * 2 ^ 149) := Nat.mul_le_mul z (Nat.mul_le_mul_right _ p1)
          rw [r3, Nat.one_mul, Nat.one_mul, ← p3] at p4
          exact absurd p2 (Nat.not_lt.mpr p4)
      have m0 : m = 0 := by
        rw [c0, Nat.zero_mul] at r3
        rcases Nat.mul_eq_zero.mp r3.symm with z | z
        · exact z
        · exact absurd z (Nat.ne_of_gt (Nat.two_pow_pos _))
      rw [c0, m0]
      simp
    · obtain ⟨k, hk⟩ : ∃ k : Nat, q' = -(k : Int) := ⟨(-q').toNat, by omega⟩
      subst hk
      rw [show (-(k : Int) - (-149)).toNat = 149 - k by omega] at r3
      rw [show (-(k : Int) + 0 - 0).toNat = 0 by omega, show (0 - (-(k : Int) + 0)).toNat = k by omega]
      refine Nat.eq_of_mul_eq_mul_right (Nat.two_pow_pos (149 - k)) ?_
      have hs : 2 ^ k * 2 ^ (149 - k) = 8388608 * 2 ^ 126 := by
        rw [← Nat.pow_add, show k + (149 - k) = 149 by omega]
      calc c' * 8388608 * 1 * 2 ^ 0 * 2 ^ (149 - k) = 8388608 * (c' * 2 ^ (149 - k)) := by
            rw [Nat.pow_zero, Nat.mul_one, Nat.mul_one, Nat.mul_comm c', Nat.mul_assoc]
        _ = 8388608 * (m * 2 ^ 126) := by rw [r3]
        _ = m * (8388608 * 2 ^ 126) := by rw [Nat.mul_left_comm]
        _ = m * (2 ^ k * 2 ^ (149 - k)) := by rw [hs]
        _ = m * 1 * 2 ^ k * 2 ^ (149 - k) := by rw [Nat.mul_one, Nat.mul_assoc]
  have cg : FP.Core.roundRatio FP.Core.b32 false (c' * 8388608) 1 (q' + 0) = FP.Core.roundRatio FP.Core.b32 false m 1 0 := FP.Core.roundRatio_congr (by decide) (by decide) key
  have same : FP.Core.val32 (FP.fmul (FP.fsub x FP.fconst1) 1258291200) = FP.Core.val32 (FP.i2f (nI m)) := v2.trans (cg.trans fit.symm)
  have nn : FP.Core.val32 (FP.fmul (FP.fsub x FP.fconst1) 1258291200) ≠ .nan := by
    rw [same]
    exact (FP.Core.i2f_fin (nI m)).ne_nan
  rw [FP.Core.val32_inj nn same]
  exact FP.Core.f2i_i2f (by rw [em]; omega)
