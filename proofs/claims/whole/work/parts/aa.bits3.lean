/-! bitsOf at a share -/
theorem i2f_nI {j : Nat} (h0 : 1 ≤ j) (h : j ≤ 16777216) : ∃ c q, FP.Core.val32 (FP.i2f (nI j)) = .fin false c q ∧ c * 2 ^ q.toNat = j * 2 ^ (-q).toNat := by
  have e : (nI j).toInt = j := nI_toInt (by omega)
  have w : FP.Core.Whole (j : Int) (FP.Core.val32 (FP.i2f (nI j))) := by
    have := FP.Core.i2f_int (a := nI j) (by rw [e]; omega)
    rw [e] at this
    exact this
  revert w
  cases hv : FP.Core.val32 (FP.i2f (nI j)) with
  | nan => exact fun w => w.elim
  | inf s => exact fun w => w.elim
  | fin s c q =>
    intro w
    have w' : FP.Core.signed s (c * 2 ^ q.toNat) = (j : Int) * ((2 ^ (-q).toNat : Nat) : Int) := w
    have p := Nat.two_pow_pos (-q).toNat
    have p2 : 0 < j * 2 ^ (-q).toNat := Nat.mul_pos h0 p
    rw [← Int.natCast_mul] at w'
    cases s with
    | false => exact ⟨c, q, rfl, Int.ofNat_inj.mp w'⟩
    | true =>
      generalize j * 2 ^ (-q).toNat = m at w' p2
      generalize c * 2 ^ q.toNat = k at w'
      have : -(k : Int) = m := w'
      omega
theorem share_ratio {j b : Nat} (h0 : 1 ≤ j) (h1 : j ≤ 16777216) (g0 : 1 ≤ b) (g1 : b ≤ 16777216) : FP.Core.val32 (FP.fdiv (FP.i2f (nI j)) (FP.i2f (nI b))) = FP.Core.roundRatio FP.Core.b32 false j b 0 := by
  obtain ⟨c, q, e1, e2⟩ := i2f_nI h0 h1
  obtain ⟨d, r, f1, f2⟩ := i2f_nI g0 g1
  have dn : d ≠ 0 := by
    intro z
    subst z
    have := Nat.mul_pos g0 (Nat.two_pow_pos (-r).toNat)
    omega
  rw [FP.Core.val32_fdiv, e1, f1]
  show (if d = 0 then _ else FP.Core.roundRatio FP.Core.b32 (false != false) c d (q - r)) = _
  rw [if_neg dn]
  refine FP.Core.roundRatio_congr (Nat.pos_of_ne_zero dn) g0 ?_
  have p1 := Nat.two_pow_pos q.toNat
  have p2 := Nat.two_pow_pos (-q).toNat
  have p3 := Nat.two_pow_pos r.toNat
  have p4 := Nat.two_pow_pos (-r).toNat
  refine Nat.eq_of_mul_eq_mul_right (Nat.mul_pos (Nat.two_pow_pos (q.toNat + (-r).toNat)) (Nat.two_pow_pos ((-q).toNat + r.toNat))) ?_
  have key : (c * 2 ^ q.toNat) * (b * 2 ^ (-r).toNat) = (j * 2 ^ (-q).toNat) * (d * 2 ^ r.toNat) := by rw [e2, f2]
  have a1 : (q - r - 0).toNat + ((-q).toNat + r.toNat) = (0 - (q - r)).toNat + (q.toNat + (-r).toNat) := by omega
  have a2 : 2 ^ (q - r - 0).toNat * 2 ^ ((-q).toNat + r.toNat) = 2 ^ (0 - (q - r)).toNat * 2 ^ (q.toNat + (-r).toNat) := by rw [← Nat.pow_add, ← Nat.pow_add, a1]
  calc c * b * 2 ^ (q - r - 0).toNat * (2 ^ (q.toNat + (-r).toNat) * 2 ^ ((-q).toNat + r.toNat))
      = (c * b) * 2 ^ (q.toNat + (-r).toNat) * (2 ^ (q - r - 0).toNat * 2 ^ ((-q).toNat + r.toNat)) := by ac_rfl
    _ = (c * b) * 2 ^ (q.toNat + (-r).toNat) * (2 ^ (0 - (q - r)).toNat * 2 ^ (q.toNat + (-r).toNat)) := by rw [a2]
    _ = ((c * 2 ^ q.toNat) * (b * 2 ^ (-r).toNat)) * (2 ^ (0 - (q - r)).toNat * 2 ^ (q.toNat + (-r).toNat)) := by rw [Nat.pow_add]; ac_rfl
    _ = ((j * 2 ^ (-q).toNat) * (d * 2 ^ r.toNat)) * (2 ^ (0 - (q - r)).toNat * 2 ^ (q.toNat + (-r).toNat)) := by rw [key]
    _ = j * d * 2 ^ (0 - (q - r)).toNat * (2 ^ (q.toNat + (-r).toNat) * 2 ^ ((-q).toNat + r.toNat)) := by rw [Nat.pow_add 2 (-q).toNat]; ac_rfl
theorem share_bits {j b : Nat} (h0 : 1 ≤ j) (h1 : j ≤ b) (h2 : b ≤ 8192) : 956301312 ≤ (FP.fdiv (FP.i2f (nI j)) (FP.i2f (nI b))).toNat ∧ (FP.fdiv (FP.i2f (nI j)) (FP.i2f (nI b))).toNat ≤ 1065353216 := by
  have v := share_ratio (j := j) (b := b) h0 (by omega) (by omega) (by omega)
  generalize FP.fdiv (FP.i2f (nI j)) (FP.i2f (nI b)) = x at v ⊢
  have d : FP.Core.decode FP.Core.b32 x.toNat = FP.Core.roundRatio FP.Core.b32 false j b 0 := v
  have nn : FP.Core.decode FP.Core.b32 x.toNat ≠ .nan := by rw [d]; exact FP.Core.roundRatio_ne_nan _ _ _ _ _
  have mg : FP.Core.mag FP.Core.b32 x.toNat ≤ FP.Core.infBits FP.Core.b32 := Nat.le_of_not_lt fun h => nn ((FP.Core.decode_nan _).mpr h)
  have sg := FP.Core.sgn_decode mg (FP.Core.lt_full32 x)
  rw [d, FP.Core.sgn_roundRatio] at sg
  have sg2 : ¬ FP.Core.half FP.Core.b32 ≤ x.toNat := of_decide_eq_false sg.symm
  rw [FP.Core.half_b32] at sg2
  have u1 : FP.Core.unitsOf FP.Core.b32 1065353216 = 2 ^ 149 := by decide +kernel
  have u2 : FP.Core.unitsOf FP.Core.b32 956301312 = 2 ^ 136 := by decide +kernel
  have le := FP.Core.mag_le FP.Core.good_b32 (m := 1065353216) (e0 := FP.Core.b32.qmin) d (by omega) (Int.le_refl _) (by decide) (by
    rw [u1, Int.sub_self]
    show j * 2 ^ (0 - FP.Core.b32.qmin).toNat ≤ 2 ^ 149 * 2 ^ 0 * b
    rw [FP.Core.qmin_b32, Nat.pow_zero, Nat.mul_one, Nat.mul_comm (2 ^ 149)]
    exact Nat.mul_le_mul_right _ h1)
  have ge := FP.Core.mag_ge FP.Core.good_b32 (m := 956301312) (e0 := FP.Core.b32.qmin) d (by omega) (Int.le_refl _) (by decide) (by decide) (by
    rw [u2, Int.sub_self]
    show 2 ^ 136 * 2 ^ 0 * b ≤ j * 2 ^ (0 - FP.Core.b32.qmin).toNat
    rw [FP.Core.qmin_b32, Nat.pow_zero, Nat.mul_one, show ((0 : Int) - -149).toNat = 136 + 13 by decide, Nat.pow_add, Nat.mul_comm (2 ^ 136), ← Nat.mul_assoc, Nat.mul_right_comm]
    exact Nat.mul_le_mul_right _ (Nat.le_trans h2 (Nat.le_mul_of_pos_left _ h0)))
  rw [FP.Core.mag_toNat32, Nat.mod_eq_of_lt (by omega)] at le ge
  exact ⟨ge, le⟩
theorem dec_bits {x : UInt32} {e m : Nat} (h : x.toNat = e * 8388608 + m) (h1 : 1 ≤ e) (h2 : e < 255) (h3 : m < 8388608) : FP.Core.val32 x = .fin false (8388608 + m) ((e : Int) - 150) := by
  have a : FP.Core.decode FP.Core.b32 (FP.Core.assemble FP.Core.b32 false e m) = _ := FP.Core.decode_assemble FP.Core.b32 false e m (by show e < 256; omega) (by show m < 8388608; omega)
  have s : FP.Core.assemble FP.Core.b32 false e m = x.toNat := by
    rw [h]
    show (0 * 256 + e) * 8388608 + m = _
    omega
  rw [s, if_neg (by show ¬ e = 255; omega), if_neg (by omega)] at a
  refine Eq.trans a ?_
  show FP.Core.Datum.fin false (8388608 + m) ((-149 : Int) + ((e : Int) - 1)) = _
  rw [show (-149 : Int) + ((e : Int) - 1) = (e : Int) - 150 by omega]
theorem dbl_bits {y : UInt32} {e m : Nat} (h : y.toNat = e * 8388608 + m) (h1 : 1 ≤ e) (h2 : e ≤ 150) (h3 : m < 8388608) : (FP.fmul y FP.fconst2).toNat = (e + 1) * 8388608 + m := by
  have a := f_dbl (dec_bits h h1 (by omega) h3) (by omega) (by omega) (by omega) (by omega)
  have n : (e + 1) * 8388608 + m < 4294967296 := by omega
  have z : (UInt32.ofNat ((e + 1) * 8388608 + m)).toNat = (e + 1) * 8388608 + m := UInt32.toNat_ofNat_of_lt' n
  have b := dec_bits z (by omega) (by omega) h3
  have ab : FP.Core.val32 (FP.fmul y FP.fconst2) = FP.Core.val32 (UInt32.ofNat ((e + 1) * 8388608 + m)) := by
    rw [a, b]
    rw [show (e : Int) - 150 + 1 = ((e + 1 : Nat) : Int) - 150 by omega]
  have nn : FP.Core.val32 (FP.fmul y FP.fconst2) ≠ .nan := by
    rw [a]
    exact FP.Core.Datum.noConfusion
  rw [FP.Core.val32_inj nn ab, z]
theorem shl23 {e : Nat} (h1 : 114 ≤ e) (h2 : e ≤ 127) : nI e <<< ((23 : Int32) &&& 31) = nI (e * 8388608) := by
  obtain ⟨i, rfl⟩ : ∃ i, e = 114 + i := ⟨e - 114, by omega⟩
  have : ∀ i, i < 14 → nI (114 + i) <<< ((23 : Int32) &&& 31) = nI ((114 + i) * 8388608) := by decide +kernel
  exact this i (by omega)
theorem bits_int {x : UInt32} {n : Nat} (h : x.toNat = n) : x.toInt32 = nI n := by
  subst h
  show x.toInt32 = Int32.ofNat x.toNat
  rw [← UInt32.toInt32_ofNat', UInt32.ofNat_toNat]
theorem fin_of_dec {x : UInt32} {s c q} (h : FP.Core.val32 x = .fin s c q) : FP.Core.FFin x := ⟨s, c, q, h⟩
theorem cmp_one {y : UInt32} (h : y.toNat < 2139095040) : (y.toNat < 1065353216 → FP.fcmp y FP.fconst1 = some .lt) ∧ (y.toNat = 1065353216 → FP.fcmp y FP.fconst1 = some .eq) ∧ (1065353216 < y.toNat → FP.fcmp y FP.fconst1 = some .gt) := by
  have fy : FP.Core.FFin y := (FP.Core.fin_bits32 y).mpr (by omega)
  have c := FP.Core.mono_bits32 (a := y) (b := FP.fconst1) fy.ne_nan (by rw [v_one]; exact FP.Core.Datum.noConfusion) (by omega) (by decide)
  have k : FP.fconst1.toNat = 1065353216 := by decide
  rw [k] at c
  exact ⟨c.1.mpr, c.2.1.mpr, c.2.2.mpr⟩
theorem cmp_zero {y : UInt32} (h : y.toNat < 2139095040) (h0 : 0 < y.toNat) : FP.fcmp y FP.fconst0 = some .gt := by
  have fy : FP.Core.FFin y := (FP.Core.fin_bits32 y).mpr (by omega)
  have c := FP.Core.mono_bits32 (a := y) (b := FP.fconst0) fy.ne_nan (by decide +kernel) (by omega) (by decide)
  have k : FP.fconst0.toNat = 0 := by decide
  rw [k] at c
  exact c.2.2.mpr h0
theorem share_zero {b : Nat} (g0 : 1 ≤ b) (g1 : b ≤ 16777216) : (FP.fdiv (FP.i2f (nI 0)) (FP.i2f (nI b))).toNat = 0 := by
  obtain ⟨d, r, f1, f2⟩ := i2f_nI g0 g1
  have dn : d ≠ 0 := by
    intro z
    subst z
    have := Nat.mul_pos g0 (Nat.two_pow_pos (-r).toNat)
    omega
  obtain ⟨q, e1⟩ : ∃ q, FP.Core.val32 (FP.i2f (nI 0)) = .fin false 0 q := ⟨-149, by decide +kernel⟩
  have v : FP.Core.val32 (FP.fdiv (FP.i2f (nI 0)) (FP.i2f (nI b))) = FP.Core.roundRatio FP.Core.b32 false 0 1 0 := by
    rw [FP.Core.val32_fdiv, e1, f1]
    show (if d = 0 then _ else FP.Core.roundRatio FP.Core.b32 (false != false) 0 d (q - r)) = _
    rw [if_neg dn]
    refine FP.Core.roundRatio_congr (Nat.pos_of_ne_zero dn) (by decide) ?_
    rw [Nat.zero_mul, Nat.zero_mul]
    simp only [Nat.zero_mul]
  have z : FP.Core.val32 (0 : UInt32) = FP.Core.roundRatio FP.Core.b32 false 0 1 0 := by decide +kernel
  have nn : FP.Core.val32 (0 : UInt32) ≠ .nan := by rw [z]; exact FP.Core.roundRatio_ne_nan _ _ _ _ _
  rw [← FP.Core.val32_inj nn (z.trans v.symm)]
  rfl
theorem nn_fin {x : UInt32} (f : FP.Core.FFin x) : FP.Core.fIsNaN x = false := (FP.Core.notNaN_iff32 _).mpr f.ne_nan
theorem n32_dbl {y : UInt32} (h : y.toNat < 2139095040) : vf_n32 (FP.fmul y FP.fconst2) := n32_of (FP.Core.fmul_out ((FP.Core.fin_bits32 y).mpr (by omega)) ((FP.Core.fin_bits32 _).mpr (by decide)))
theorem nn_sub1 {y : UInt32} (h : y.toNat < 2139095040) : FP.Core.fIsNaN (FP.fsub y FP.fconst1) = false := FP.Core.fsub_out (nn_fin ((FP.Core.fin_bits32 y).mpr (by omega))) ((FP.Core.fin_bits32 _).mpr (by decide))
theorem n32_sub1 {y : UInt32} (h : y.toNat < 2139095040) : vf_n32 (FP.fsub y FP.fconst1) := n32_of (nn_sub1 h)
theorem n32_frac {y : UInt32} (h : y.toNat < 2139095040) : vf_n32 (FP.fmul (FP.fsub y FP.fconst1) 1258291200) := n32_of (FP.Core.fmul_out' (nn_sub1 h) ((FP.Core.fin_bits32 _).mpr (by decide)) (fun z => absurd ((FP.Core.zero_bits232 _).mp z) (by decide)))
theorem bitsOf_ok {h : CH} {Q : QT} {x : UInt32} (hx : x.toNat = 0 ∨ 956301312 ≤ x.toNat ∧ x.toNat ≤ 1065353216) (k : Q (.inl [.int x.toInt32]) h) : wX9_bitsOf [.float x] h Q := by
  refine wgo (fun X hX => ?_) (by show 1 ≤ 4; decide)
  rcases hx with z | ⟨z1, z2⟩
  · have x0 : x = 0 := UInt32.toNat_inj.mp z
    subst x0
    have e1 : FP.fcmp 0 FP.fconst0 = some .eq := by decide +kernel
    (refine go mX9_bitsOf hX [] 400 ?_; conv => whnf)
    repeat (first | (refine rs ?_; conv => whnf) | unfold k_call | ((with_reducible refine And.intro ?_ ?_); (first | (first | assumption | rfl | exact True.intro | exact Nat.le_of_ble_eq_true rfl | exact Or.inl rfl | exact Or.inr rfl | exact okv3 (by assumption) | decide | (focus (simp (disch := omega) only [e1, nI_clamp, vp_in_nI, hT_sI, hR_sI, hT_sJ, hR_sJ, hT_sR, hI_sJ, hI_sR, hJ_sI, hJ_sR, hI_eq, hI_ne, hI_nk]; done)) | (focus (simp (disch := omega) only [e1, nI_clamp, vp_in_nI, hT_sI, hR_sI, hT_sJ, hR_sJ, hT_sR, hI_sJ, hI_sR, hJ_sI, hJ_sR, hI_eq, hI_ne, hI_nk]; first | assumption | exact okv3 (by assumption)))) | (focus (refine ⟨_, rfl, ?_⟩; (first | assumption | rfl | exact True.intro | exact Nat.le_of_ble_eq_true rfl | exact Or.inl rfl | exact Or.inr rfl | exact okv3 (by assumption) | decide | (focus (simp (disch := omega) only [e1, nI_clamp, vp_in_nI, hT_sI, hR_sI, hT_sJ, hR_sJ, hT_sR, hI_sJ, hI_sR, hJ_sI, hJ_sR, hI_eq, hI_ne, hI_nk]; done)) | (focus (simp (disch := omega) only [e1, nI_clamp, vp_in_nI, hT_sI, hR_sI, hT_sJ, hR_sJ, hT_sR, hI_sJ, hI_sR, hJ_sI, hJ_sR, hI_eq, hI_ne, hI_nk]; first | assumption | exact okv3 (by assumption)))))))))
    (try simp (disch := omega) only [e1, nI_clamp, vp_in_nI, hT_sI, hR_sI, hT_sJ, hR_sJ, hT_sR, hI_sJ, hI_sR, hJ_sI, hJ_sR, hI_eq, hI_ne, hI_nk])
    refine br_f (show ¬ (0 : Int32) < 0 by decide) ?_
    repeat (first | (refine rs ?_; conv => whnf) | unfold k_call | ((with_reducible refine And.intro ?_ ?_); (first | (first | assumption | rfl | exact True.intro | exact Nat.le_of_ble_eq_true rfl | exact Or.inl rfl | exact Or.inr rfl | exact okv3 (by assumption) | decide | (focus (simp (disch := omega) only [e1, nI_clamp, vp_in_nI, hT_sI, hR_sI, hT_sJ, hR_sJ, hT_sR, hI_sJ, hI_sR, hJ_sI, hJ_sR, hI_eq, hI_ne, hI_nk]; done)) | (focus (simp (disch := omega) only [e1, nI_clamp, vp_in_nI, hT_sI, hR_sI, hT_sJ, hR_sJ, hT_sR, hI_sJ, hI_sR, hJ_sI, hJ_sR, hI_eq, hI_ne, hI_nk]; first | assumption | exact okv3 (by assumption)))) | (focus (refine ⟨_, rfl, ?_⟩; (first | assumption | rfl | exact True.intro | exact Nat.le_of_ble_eq_true rfl | exact Or.inl rfl | exact Or.inr rfl | exact okv3 (by assumption) | decide | (focus (simp (disch := omega) only [e1, nI_clamp, vp_in_nI, hT_sI, hR_sI, hT_sJ, hR_sJ, hT_sR, hI_sJ, hI_sR, hJ_sI, hJ_sR, hI_eq, hI_ne, hI_nk]; done)) | (focus (simp (disch := omega) only [e1, nI_clamp, vp_in_nI, hT_sI, hR_sI, hT_sJ, hR_sJ, hT_sR, hI_sJ, hI_sR, hJ_sI, hJ_sR, hI_eq, hI_ne, hI_nk]; first | assumption | exact okv3 (by assumption)))))))))
    exact k
  · have e1 : FP.fcmp x FP.fconst0 = some .gt := cmp_zero (by omega) (by omega)
    obtain ⟨e, m, hm, hx⟩ : ∃ e m, m < 8388608 ∧ x.toNat = e * 8388608 + m := ⟨x.toNat / 8388608, x.toNat % 8388608, Nat.mod_lt _ (by decide), by omega⟩
    have a1 : 114 ≤ e := by omega
    have a2 : e ≤ 127 := by omega
    have loop : ∀ r, ∀ y : UInt32, e + r ≤ 127 → y.toNat = (127 - r) * 8388608 + m → X 15 [.float x, .float y, .int (nI (e + r)), .int (nI (127 - e - r))] [] h 0 0 := by
      intro r
      induction r with
      | zero =>
        intro y hr hy
        have hb : y.toNat < 2139095040 := by omega
        have f1 : vf_n32 (FP.fsub y FP.fconst1) := n32_sub1 hb
        have f2 : vf_n32 (FP.fmul (FP.fsub y FP.fconst1) 1258291200) := n32_frac hb
        have g1 : FP.f2i (FP.fmul (FP.fsub y FP.fconst1) 1258291200) = nI m := by
          have := f_frac (dec_bits (e := 127) hy (by decide) (by decide) hm) (by omega) (by omega)
          rw [show 8388608 + m - 8388608 = m by omega] at this
          exact this
        have g2 : nI e <<< ((23 : Int32) &&& 31) + nI m = x.toInt32 := by
          rw [shl23 a1 a2, bits_int hx]
          exact (Int32.ofNat_add _ _).symm
        have fin : X 40 [.float x, .float y, .int (nI (e + 0)), .int (nI (127 - e - 0))] [] h 0 0 := by
          (refine go mX9_bitsOf hX [] 400 ?_; conv => whnf)
          repeat (first | (refine rs ?_; conv => whnf) | unfold k_call | ((with_reducible refine And.intro ?_ ?_); (first | (first | assumption | rfl | exact True.intro | exact Nat.le_of_ble_eq_true rfl | exact Or.inl rfl | exact Or.inr rfl | exact okv3 (by assumption) | decide | (focus (simp (disch := omega) only [f1, f2, nI_clamp, vp_in_nI, hT_sI, hR_sI, hT_sJ, hR_sJ, hT_sR, hI_sJ, hI_sR, hJ_sI, hJ_sR, hI_eq, hI_ne, hI_nk]; done)) | (focus (simp (disch := omega) only [f1, f2, nI_clamp, vp_in_nI, hT_sI, hR_sI, hT_sJ, hR_sJ, hT_sR, hI_sJ, hI_sR, hJ_sI, hJ_sR, hI_eq, hI_ne, hI_nk]; first | assumption | exact okv3 (by assumption)))) | (focus (refine ⟨_, rfl, ?_⟩; (first | assumption | rfl | exact True.intro | exact Nat.le_of_ble_eq_true rfl | exact Or.inl rfl | exact Or.inr rfl | exact okv3 (by assumption) | decide | (focus (simp (disch := omega) only [f1, f2, nI_clamp, vp_in_nI, hT_sI, hR_sI, hT_sJ, hR_sJ, hT_sR, hI_sJ, hI_sR, hJ_sI, hJ_sR, hI_eq, hI_ne, hI_nk]; done)) | (focus (simp (disch := omega) only [f1, f2, nI_clamp, vp_in_nI, hT_sI, hR_sI, hT_sJ, hR_sJ, hT_sR, hI_sJ, hI_sR, hJ_sI, hJ_sR, hI_eq, hI_ne, hI_nk]; first | assumption | exact okv3 (by assumption)))))))))
          rw [g1]
          repeat (first | (refine rs ?_; conv => whnf) | unfold k_call | ((with_reducible refine And.intro ?_ ?_); (first | (first | assumption | rfl | exact True.intro | exact Nat.le_of_ble_eq_true rfl | exact Or.inl rfl | exact Or.inr rfl | exact okv3 (by assumption) | decide | (focus (simp (disch := omega) only [f1, f2, nI_clamp, vp_in_nI, hT_sI, hR_sI, hT_sJ, hR_sJ, hT_sR, hI_sJ, hI_sR, hJ_sI, hJ_sR, hI_eq, hI_ne, hI_nk]; done)) | (focus (simp (disch := omega) only [f1, f2, nI_clamp, vp_in_nI, hT_sI, hR_sI, hT_sJ, hR_sJ, hT_sR, hI_sJ, hI_sR, hJ_sI, hJ_sR, hI_eq, hI_ne, hI_nk]; first | assumption | exact okv3 (by assumption)))) | (focus (refine ⟨_, rfl, ?_⟩; (first | assumption | rfl | exact True.intro | exact Nat.le_of_ble_eq_true rfl | exact Or.inl rfl | exact Or.inr rfl | exact okv3 (by assumption) | decide | (focus (simp (disch := omega) only [f1, f2, nI_clamp, vp_in_nI, hT_sI, hR_sI, hT_sJ, hR_sJ, hT_sR, hI_sJ, hI_sR, hJ_sI, hJ_sR, hI_eq, hI_ne, hI_nk]; done)) | (focus (simp (disch := omega) only [f1, f2, nI_clamp, vp_in_nI, hT_sI, hR_sI, hT_sJ, hR_sJ, hT_sR, hI_sJ, hI_sR, hJ_sI, hJ_sR, hI_eq, hI_ne, hI_nk]; first | assumption | exact okv3 (by assumption)))))))))
          show Q (.inl [.int (nI (e + 0) <<< ((23 : Int32) &&& 31) + nI m)]) h
          rw [Nat.add_zero, g2]
          exact k
        (refine go mX9_bitsOf hX [40] 400 ?_; conv => whnf)
        repeat (first | (refine rs ?_; conv => whnf) | unfold k_call | ((with_reducible refine And.intro ?_ ?_); (first | (first | assumption | rfl | exact True.intro | exact Nat.le_of_ble_eq_true rfl | exact Or.inl rfl | exact Or.inr rfl | exact okv3 (by assumption) | decide | (focus (simp (disch := omega) only [nI_clamp, vp_in_nI, hT_sI, hR_sI, hT_sJ, hR_sJ, hT_sR, hI_sJ, hI_sR, hJ_sI, hJ_sR, hI_eq, hI_ne, hI_nk]; done)) | (focus (simp (disch := omega) only [nI_clamp, vp_in_nI, hT_sI, hR_sI, hT_sJ, hR_sJ, hT_sR, hI_sJ, hI_sR, hJ_sI, hJ_sR, hI_eq, hI_ne, hI_nk]; first | assumption | exact okv3 (by assumption)))) | (focus (refine ⟨_, rfl, ?_⟩; (first | assumption | rfl | exact True.intro | exact Nat.le_of_ble_eq_true rfl | exact Or.inl rfl | exact Or.inr rfl | exact okv3 (by assumption) | decide | (focus (simp (disch := omega) only [nI_clamp, vp_in_nI, hT_sI, hR_sI, hT_sJ, hR_sJ, hT_sR, hI_sJ, hI_sR, hJ_sI, hJ_sR, hI_eq, hI_ne, hI_nk]; done)) | (focus (simp (disch := omega) only [nI_clamp, vp_in_nI, hT_sI, hR_sI, hT_sJ, hR_sJ, hT_sR, hI_sJ, hI_sR, hJ_sI, hJ_sR, hI_eq, hI_ne, hI_nk]; first | assumption | exact okv3 (by assumption)))))))))
        refine br_f (nI_ge (a := 127 - e - 0) (b := 127) (by omega) (by omega)) ?_
        repeat (first | (refine rs ?_; conv => whnf) | unfold k_call | ((with_reducible refine And.intro ?_ ?_); (first | (first | assumption | rfl | exact True.intro | exact Nat.le_of_ble_eq_true rfl | exact Or.inl rfl | exact Or.inr rfl | exact okv3 (by assumption) | decide | (focus (simp (disch := omega) only [nI_clamp, vp_in_nI, hT_sI, hR_sI, hT_sJ, hR_sJ, hT_sR, hI_sJ, hI_sR, hJ_sI, hJ_sR, hI_eq, hI_ne, hI_nk]; done)) | (focus (simp (disch := omega) only [nI_clamp, vp_in_nI, hT_sI, hR_sI, hT_sJ, hR_sJ, hT_sR, hI_sJ, hI_sR, hJ_sI, hJ_sR, hI_eq, hI_ne, hI_nk]; first | assumption | exact okv3 (by assumption)))) | (focus (refine ⟨_, rfl, ?_⟩; (first | assumption | rfl | exact True.intro | exact Nat.le_of_ble_eq_true rfl | exact Or.inl rfl | exact Or.inr rfl | exact okv3 (by assumption) | decide | (focus (simp (disch := omega) only [nI_clamp, vp_in_nI, hT_sI, hR_sI, hT_sJ, hR_sJ, hT_sR, hI_sJ, hI_sR, hJ_sI, hJ_sR, hI_eq, hI_ne, hI_nk]; done)) | (focus (simp (disch := omega) only [nI_clamp, vp_in_nI, hT_sI, hR_sI, hT_sJ, hR_sJ, hT_sR, hI_sJ, hI_sR, hJ_sI, hJ_sR, hI_eq, hI_ne, hI_nk]; first | assumption | exact okv3 (by assumption)))))))))
        rcases Nat.lt_or_ge 1065353216 y.toNat with w | w
        · rw [(cmp_one hb).2.2 w]
          refine br_t (show (0 : Int32) ≤ 1 by decide) ?_
          exact fin
        · rw [(cmp_one hb).2.1 (by omega)]
          refine br_t (show (0 : Int32) ≤ 0 by decide) ?_
          exact fin
      | succ r ih =>
        intro y hr hy
        have hb : y.toNat < 2139095040 := by omega
        have e2 : FP.fcmp y FP.fconst1 = some .lt := (cmp_one hb).1 (by omega)
        have f1 : vf_n32 (FP.fmul y FP.fconst2) := n32_dbl hb
        have nx := dbl_bits (e := 127 - (r + 1)) hy (by omega) (by omega) hm
        rw [show 127 - (r + 1) + 1 = 127 - r by omega] at nx
        have go' := ih (FP.fmul y FP.fconst2) (by omega) nx
        (refine go mX9_bitsOf hX [15] 400 ?_; conv => whnf)
        repeat (first | (refine rs ?_; conv => whnf) | unfold k_call | ((with_reducible refine And.intro ?_ ?_); (first | (first | assumption | rfl | exact True.intro | exact Nat.le_of_ble_eq_true rfl | exact Or.inl rfl | exact Or.inr rfl | exact okv3 (by assumption) | decide | (focus (simp (disch := omega) only [e2, f1, nI_clamp, vp_in_nI, hT_sI, hR_sI, hT_sJ, hR_sJ, hT_sR, hI_sJ, hI_sR, hJ_sI, hJ_sR, hI_eq, hI_ne, hI_nk]; done)) | (focus (simp (disch := omega) only [e2, f1, nI_clamp, vp_in_nI, hT_sI, hR_sI, hT_sJ, hR_sJ, hT_sR, hI_sJ, hI_sR, hJ_sI, hJ_sR, hI_eq, hI_ne, hI_nk]; first | assumption | exact okv3 (by assumption)))) | (focus (refine ⟨_, rfl, ?_⟩; (first | assumption | rfl | exact True.intro | exact Nat.le_of_ble_eq_true rfl | exact Or.inl rfl | exact Or.inr rfl | exact okv3 (by assumption) | decide | (focus (simp (disch := omega) only [e2, f1, nI_clamp, vp_in_nI, hT_sI, hR_sI, hT_sJ, hR_sJ, hT_sR, hI_sJ, hI_sR, hJ_sI, hJ_sR, hI_eq, hI_ne, hI_nk]; done)) | (focus (simp (disch := omega) only [e2, f1, nI_clamp, vp_in_nI, hT_sI, hR_sI, hT_sJ, hR_sJ, hT_sR, hI_sJ, hI_sR, hJ_sI, hJ_sR, hI_eq, hI_ne, hI_nk]; first | assumption | exact okv3 (by assumption)))))))))
        refine br_f (nI_ge (a := 127 - e - (r + 1)) (b := 127) (by omega) (by omega)) ?_
        repeat (first | (refine rs ?_; conv => whnf) | unfold k_call | ((with_reducible refine And.intro ?_ ?_); (first | (first | assumption | rfl | exact True.intro | exact Nat.le_of_ble_eq_true rfl | exact Or.inl rfl | exact Or.inr rfl | exact okv3 (by assumption) | decide | (focus (simp (disch := omega) only [e2, f1, nI_clamp, vp_in_nI, hT_sI, hR_sI, hT_sJ, hR_sJ, hT_sR, hI_sJ, hI_sR, hJ_sI, hJ_sR, hI_eq, hI_ne, hI_nk]; done)) | (focus (simp (disch := omega) only [e2, f1, nI_clamp, vp_in_nI, hT_sI, hR_sI, hT_sJ, hR_sJ, hT_sR, hI_sJ, hI_sR, hJ_sI, hJ_sR, hI_eq, hI_ne, hI_nk]; first | assumption | exact okv3 (by assumption)))) | (focus (refine ⟨_, rfl, ?_⟩; (first | assumption | rfl | exact True.intro | exact Nat.le_of_ble_eq_true rfl | exact Or.inl rfl | exact Or.inr rfl | exact okv3 (by assumption) | decide | (focus (simp (disch := omega) only [e2, f1, nI_clamp, vp_in_nI, hT_sI, hR_sI, hT_sJ, hR_sJ, hT_sR, hI_sJ, hI_sR, hJ_sI, hJ_sR, hI_eq, hI_ne, hI_nk]; done)) | (focus (simp (disch := omega) only [e2, f1, nI_clamp, vp_in_nI, hT_sI, hR_sI, hT_sJ, hR_sJ, hT_sR, hI_sJ, hI_sR, hJ_sI, hJ_sR, hI_eq, hI_ne, hI_nk]; first | assumption | exact okv3 (by assumption)))))))))
        (try simp (disch := omega) only [e2, f1, nI_clamp, vp_in_nI, hT_sI, hR_sI, hT_sJ, hR_sJ, hT_sR, hI_sJ, hI_sR, hJ_sI, hJ_sR, hI_eq, hI_ne, hI_nk])
        refine br_f (show ¬ (0 : Int32) ≤ -1 by decide) ?_
        repeat (first | (refine rs ?_; conv => whnf) | unfold k_call | ((with_reducible refine And.intro ?_ ?_); (first | (first | assumption | rfl | exact True.intro | exact Nat.le_of_ble_eq_true rfl | exact Or.inl rfl | exact Or.inr rfl | exact okv3 (by assumption) | decide | (focus (simp (disch := omega) only [e2, f1, nI_clamp, vp_in_nI, hT_sI, hR_sI, hT_sJ, hR_sJ, hT_sR, hI_sJ, hI_sR, hJ_sI, hJ_sR, hI_eq, hI_ne, hI_nk]; done)) | (focus (simp (disch := omega) only [e2, f1, nI_clamp, vp_in_nI, hT_sI, hR_sI, hT_sJ, hR_sJ, hT_sR, hI_sJ, hI_sR, hJ_sI, hJ_sR, hI_eq, hI_ne, hI_nk]; first | assumption | exact okv3 (by assumption)))) | (focus (refine ⟨_, rfl, ?_⟩; (first | assumption | rfl | exact True.intro | exact Nat.le_of_ble_eq_true rfl | exact Or.inl rfl | exact Or.inr rfl | exact okv3 (by assumption) | decide | (focus (simp (disch := omega) only [e2, f1, nI_clamp, vp_in_nI, hT_sI, hR_sI, hT_sJ, hR_sJ, hT_sR, hI_sJ, hI_sR, hJ_sI, hJ_sR, hI_eq, hI_ne, hI_nk]; done)) | (focus (simp (disch := omega) only [e2, f1, nI_clamp, vp_in_nI, hT_sI, hR_sI, hT_sJ, hR_sJ, hT_sR, hI_sJ, hI_sR, hJ_sI, hJ_sR, hI_eq, hI_ne, hI_nk]; first | assumption | exact okv3 (by assumption)))))))))
        rw [show nI (e + (r + 1)) + (-1) = nI (e + r) from nI_dec (e + r), nI_1, show 127 - e - (r + 1) + 1 = 127 - e - r by omega]
        exact go'
    (refine go mX9_bitsOf hX [15] 400 ?_; conv => whnf)
    repeat (first | (refine rs ?_; conv => whnf) | unfold k_call | ((with_reducible refine And.intro ?_ ?_); (first | (first | assumption | rfl | exact True.intro | exact Nat.le_of_ble_eq_true rfl | exact Or.inl rfl | exact Or.inr rfl | exact okv3 (by assumption) | decide | (focus (simp (disch := omega) only [e1, nI_clamp, vp_in_nI, hT_sI, hR_sI, hT_sJ, hR_sJ, hT_sR, hI_sJ, hI_sR, hJ_sI, hJ_sR, hI_eq, hI_ne, hI_nk]; done)) | (focus (simp (disch := omega) only [e1, nI_clamp, vp_in_nI, hT_sI, hR_sI, hT_sJ, hR_sJ, hT_sR, hI_sJ, hI_sR, hJ_sI, hJ_sR, hI_eq, hI_ne, hI_nk]; first | assumption | exact okv3 (by assumption)))) | (focus (refine ⟨_, rfl, ?_⟩; (first | assumption | rfl | exact True.intro | exact Nat.le_of_ble_eq_true rfl | exact Or.inl rfl | exact Or.inr rfl | exact okv3 (by assumption) | decide | (focus (simp (disch := omega) only [e1, nI_clamp, vp_in_nI, hT_sI, hR_sI, hT_sJ, hR_sJ, hT_sR, hI_sJ, hI_sR, hJ_sI, hJ_sR, hI_eq, hI_ne, hI_nk]; done)) | (focus (simp (disch := omega) only [e1, nI_clamp, vp_in_nI, hT_sI, hR_sI, hT_sJ, hR_sJ, hT_sR, hI_sJ, hI_sR, hJ_sI, hJ_sR, hI_eq, hI_ne, hI_nk]; first | assumption | exact okv3 (by assumption)))))))))
    (try simp (disch := omega) only [e1, nI_clamp, vp_in_nI, hT_sI, hR_sI, hT_sJ, hR_sJ, hT_sR, hI_sJ, hI_sR, hJ_sI, hJ_sR, hI_eq, hI_ne, hI_nk])
    refine br_t (show (0 : Int32) < 1 by decide) ?_
    repeat (first | (refine rs ?_; conv => whnf) | unfold k_call | ((with_reducible refine And.intro ?_ ?_); (first | (first | assumption | rfl | exact True.intro | exact Nat.le_of_ble_eq_true rfl | exact Or.inl rfl | exact Or.inr rfl | exact okv3 (by assumption) | decide | (focus (simp (disch := omega) only [e1, nI_clamp, vp_in_nI, hT_sI, hR_sI, hT_sJ, hR_sJ, hT_sR, hI_sJ, hI_sR, hJ_sI, hJ_sR, hI_eq, hI_ne, hI_nk]; done)) | (focus (simp (disch := omega) only [e1, nI_clamp, vp_in_nI, hT_sI, hR_sI, hT_sJ, hR_sJ, hT_sR, hI_sJ, hI_sR, hJ_sI, hJ_sR, hI_eq, hI_ne, hI_nk]; first | assumption | exact okv3 (by assumption)))) | (focus (refine ⟨_, rfl, ?_⟩; (first | assumption | rfl | exact True.intro | exact Nat.le_of_ble_eq_true rfl | exact Or.inl rfl | exact Or.inr rfl | exact okv3 (by assumption) | decide | (focus (simp (disch := omega) only [e1, nI_clamp, vp_in_nI, hT_sI, hR_sI, hT_sJ, hR_sJ, hT_sR, hI_sJ, hI_sR, hJ_sI, hJ_sR, hI_eq, hI_ne, hI_nk]; done)) | (focus (simp (disch := omega) only [e1, nI_clamp, vp_in_nI, hT_sI, hR_sI, hT_sJ, hR_sJ, hT_sR, hI_sJ, hI_sR, hJ_sI, hJ_sR, hI_eq, hI_ne, hI_nk]; first | assumption | exact okv3 (by assumption)))))))))
    have := loop (127 - e) x (by omega) (by rw [show 127 - (127 - e) = e by omega]; exact hx)
    rw [show e + (127 - e) = 127 by omega, show 127 - e - (127 - e) = 0 by omega] at this
    exact this
