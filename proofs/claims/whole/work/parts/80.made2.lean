/-! THE REFERENCE MADE (printed) -/
def mM1 (h : CH) : CH := mA h (100, 128) 1
def mM2 (h : CH) : CH := mA (mM1 h) (100, 128) 2
def mM3 (h : CH) : CH := mA (mM2 h) (100, 64) 3
def mM4 (h : CH) : CH := mL (mM3 h) 4
def mM5 (h : CH) : CH := mA (mM4 h) (100, 8) 5
def mM6 (h : CH) : CH := mA (mM5 h) (100, 2) 6
def mM7 (h : CH) : CH := mA (mM6 h) (107, 16) 7
def mM8 (h : CH) : CH := mI1 (mM7 h)
def mM9 (h : CH) : CH := mA (mM8 h) (101, 3) 15
def mM10 (h : CH) : CH := mA (mM9 h) (100, 128) 16
def mM11 (h : CH) : CH := mI2 (mM10 h)
def mM12 (h : CH) : CH := mL (mM11 h) 21
def mM13 (h : CH) : CH := mL (mM12 h) 22
def mkMod (h : CH) : CH := mLg (mM13 h) 128
theorem Stm.hi {f g : CH} {i : Nat} {t : Nat × Nat} {n : Nat} (S : Stm f g i t) (e : hN g = n) : Same f g 362 n := e ▸ S.1
theorem sm_I1 {g : CH} {lo hi : Nat} (q : ¬ (lo ≤ 361 ∧ 361 < hi)) : Same (mI1 g) g lo hi := (sm_sI q).trans ((sm_sI q).trans (sm_sI q))
theorem sm_I2 {g : CH} {lo hi : Nat} (q : ¬ (lo ≤ 361 ∧ 361 < hi)) : Same (mI2 g) g lo hi := sm_sI q
theorem mkMod_ok {h : CH} (hn : hN h = 362) (t0 : (hT h 361).1 = 16) (hz : ∀ k, hI h 361 k = 0) (hj : ∀ k, hJ h 361 k = 0) : hN (mkMod h) = 373 ∧ Same (mkMod h) h 0 361 ∧ (hT (mkMod h) 361).1 = 16 ∧ (∀ k, hJ (mkMod h) 361 k = 0) ∧ (∀ k, hI (mkMod h) 361 k = if k = 8 then 8 else if k = 9 then 108 else if k = 10 then 4 else if k = 19 then 1 else 0) ∧ hR (mkMod h) 361 1 = 362 ∧ hR (mkMod h) 361 2 = 363 ∧ hR (mkMod h) 361 3 = 364 ∧ hR (mkMod h) 361 4 = 365 ∧ hR (mkMod h) 361 5 = 366 ∧ hR (mkMod h) 361 6 = 367 ∧ hR (mkMod h) 361 7 = 368 ∧ hR (mkMod h) 361 15 = 369 ∧ hR (mkMod h) 361 16 = 370 ∧ hR (mkMod h) 361 21 = 371 ∧ hR (mkMod h) 361 22 = 372 ∧ hT (mkMod h) 362 = (100, 128) ∧ hT (mkMod h) 363 = (100, 128) ∧ hT (mkMod h) 364 = (100, 64) ∧ hT (mkMod h) 365 = (3, 0) ∧ hT (mkMod h) 366 = (100, 8) ∧ hT (mkMod h) 367 = (100, 2) ∧ hT (mkMod h) 368 = (107, 16) ∧ hT (mkMod h) 369 = (101, 3) ∧ hT (mkMod h) 370 = (100, 128) ∧ hT (mkMod h) 371 = (3, 0) ∧ hT (mkMod h) 372 = (3, 0) ∧ ∀ x, 362 ≤ x → x < 373 → (∀ k, hI (mkMod h) x k = if x = 370 ∧ k < 128 then -1 else 0) ∧ (∀ k, hJ (mkMod h) x k = 0) ∧ ∀ k, hR (mkMod h) x k = if (x = 365 ∨ x = 371 ∨ x = 372) ∧ k = 1 then 257 else 0 := by
  have n0 : hN h = 362 := hn
  have s1 : Stm (mM1 h) h 1 (100, 128) := stm_A (by omega) (by decide)
  have n1 : hN (mM1 h) = 363 := by rw [s1.2.2.2.2.2.2.1, n0]
  have s2 : Stm (mM2 h) (mM1 h) 2 (100, 128) := stm_A (by omega) (by decide)
  have n2 : hN (mM2 h) = 364 := by rw [s2.2.2.2.2.2.2.1, n1]
  have s3 : Stm (mM3 h) (mM2 h) 3 (100, 64) := stm_A (by omega) (by decide)
  have n3 : hN (mM3 h) = 365 := by rw [s3.2.2.2.2.2.2.1, n2]
  have s4 : Stm (mM4 h) (mM3 h) 4 (3, 0) := stm_L (by omega)
  have n4 : hN (mM4 h) = 366 := by rw [s4.2.2.2.2.2.2.1, n3]
  have s5 : Stm (mM5 h) (mM4 h) 5 (100, 8) := stm_A (by omega) (by decide)
  have n5 : hN (mM5 h) = 367 := by rw [s5.2.2.2.2.2.2.1, n4]
  have s6 : Stm (mM6 h) (mM5 h) 6 (100, 2) := stm_A (by omega) (by decide)
  have n6 : hN (mM6 h) = 368 := by rw [s6.2.2.2.2.2.2.1, n5]
  have s7 : Stm (mM7 h) (mM6 h) 7 (107, 16) := stm_A (by omega) (by decide)
  have n7 : hN (mM7 h) = 369 := by rw [s7.2.2.2.2.2.2.1, n6]
  have n8 : hN (mM8 h) = 369 := n7
  have s9 : Stm (mM9 h) (mM8 h) 15 (101, 3) := stm_A (by omega) (by decide)
  have n9 : hN (mM9 h) = 370 := by rw [s9.2.2.2.2.2.2.1, n8]
  have s10 : Stm (mM10 h) (mM9 h) 16 (100, 128) := stm_A (by omega) (by decide)
  have n10 : hN (mM10 h) = 371 := by rw [s10.2.2.2.2.2.2.1, n9]
  have n11 : hN (mM11 h) = 371 := n10
  have s12 : Stm (mM12 h) (mM11 h) 21 (3, 0) := stm_L (by omega)
  have n12 : hN (mM12 h) = 372 := by rw [s12.2.2.2.2.2.2.1, n11]
  have s13 : Stm (mM13 h) (mM12 h) 22 (3, 0) := stm_L (by omega)
  have n13 : hN (mM13 h) = 373 := by rw [s13.2.2.2.2.2.2.1, n12]
  have rt := mLg_rt (g := mM13 h) 128
  have k13 : Same (mM13 h) (mM13 h) 362 373 := sm_rfl _ _ _
  have k12 : Same (mM13 h) (mM12 h) 362 372 := (k13.sub (Nat.le_refl _) (by decide)).trans (s13.hi n12)
  have k11 : Same (mM13 h) (mM11 h) 362 371 := (k12.sub (Nat.le_refl _) (by decide)).trans (s12.hi n11)
  have k10 : Same (mM13 h) (mM10 h) 362 371 := k11.trans (sm_I2 (by omega))
  have k9 : Same (mM13 h) (mM9 h) 362 370 := (k10.sub (Nat.le_refl _) (by decide)).trans (s10.hi n9)
  have k8 : Same (mM13 h) (mM8 h) 362 369 := (k9.sub (Nat.le_refl _) (by decide)).trans (s9.hi n8)
  have k7 : Same (mM13 h) (mM7 h) 362 369 := k8.trans (sm_I1 (by omega))
  have k6 : Same (mM13 h) (mM6 h) 362 368 := (k7.sub (Nat.le_refl _) (by decide)).trans (s7.hi n6)
  have k5 : Same (mM13 h) (mM5 h) 362 367 := (k6.sub (Nat.le_refl _) (by decide)).trans (s6.hi n5)
  have k4 : Same (mM13 h) (mM4 h) 362 366 := (k5.sub (Nat.le_refl _) (by decide)).trans (s5.hi n4)
  have k3 : Same (mM13 h) (mM3 h) 362 365 := (k4.sub (Nat.le_refl _) (by decide)).trans (s4.hi n3)
  have k2 : Same (mM13 h) (mM2 h) 362 364 := (k3.sub (Nat.le_refl _) (by decide)).trans (s3.hi n2)
  have k1 : Same (mM13 h) (mM1 h) 362 363 := (k2.sub (Nat.le_refl _) (by decide)).trans (s2.hi n1)
  have l1 : Same (mM1 h) h 0 361 := s1.2.1
  have l2 : Same (mM2 h) h 0 361 := s2.2.1.trans l1
  have l3 : Same (mM3 h) h 0 361 := s3.2.1.trans l2
  have l4 : Same (mM4 h) h 0 361 := s4.2.1.trans l3
  have l5 : Same (mM5 h) h 0 361 := s5.2.1.trans l4
  have l6 : Same (mM6 h) h 0 361 := s6.2.1.trans l5
  have l7 : Same (mM7 h) h 0 361 := s7.2.1.trans l6
  have l8 : Same (mM8 h) h 0 361 := (sm_I1 (by omega)).trans l7
  have l9 : Same (mM9 h) h 0 361 := s9.2.1.trans l8
  have l10 : Same (mM10 h) h 0 361 := s10.2.1.trans l9
  have l11 : Same (mM11 h) h 0 361 := (sm_I2 (by omega)).trans l10
  have l12 : Same (mM12 h) h 0 361 := s12.2.1.trans l11
  have l13 : Same (mM13 h) h 0 361 := s13.2.1.trans l12
  have T13 : hT (mM13 h) 361 = hT h 361 := s13.2.2.1.trans (s12.2.2.1.trans (s10.2.2.1.trans (s9.2.2.1.trans (s7.2.2.1.trans (s6.2.2.1.trans (s5.2.2.1.trans (s4.2.2.1.trans (s3.2.2.1.trans (s2.2.2.1.trans (s1.2.2.1))))))))))
  have J13 : hJ (mM13 h) 361 = hJ h 361 := s13.2.2.2.2.1.trans (s12.2.2.2.2.1.trans (s10.2.2.2.2.1.trans (s9.2.2.2.2.1.trans (s7.2.2.2.2.1.trans (s6.2.2.2.2.1.trans (s5.2.2.2.2.1.trans (s4.2.2.2.2.1.trans (s3.2.2.2.2.1.trans (s2.2.2.2.2.1.trans (s1.2.2.2.2.1))))))))))
  have I7 : hI (mM7 h) 361 = hI h 361 := s7.2.2.2.1.trans (s6.2.2.2.1.trans (s5.2.2.2.1.trans (s4.2.2.2.1.trans (s3.2.2.2.1.trans (s2.2.2.2.1.trans (s1.2.2.2.1))))))
  have I10 : hI (mM10 h) 361 = hI (mM8 h) 361 := s10.2.2.2.1.trans s9.2.2.2.1
  have I13 : hI (mM13 h) 361 = hI (mM11 h) 361 := s13.2.2.2.1.trans s12.2.2.2.1
  have I361 : ∀ k, hI (mM13 h) 361 k = if k = 8 then 8 else if k = 9 then 108 else if k = 10 then 4 else if k = 19 then 1 else 0 := fun k => by
    rw [I13]
    show hI (sI (mM10 h) 361 19 1) 361 k = _
    rw [hI_sI, I10]
    show (if 361 = 361 ∧ k = 19 then (1 : Int32) else hI (sI (sI (sI (mM7 h) 361 8 8) 361 9 108) 361 10 4) 361 k) = _
    rw [hI_sI, hI_sI, hI_sI, I7, hz]
    by_cases c1 : k = 19
    · rw [if_pos ⟨rfl, c1⟩, if_neg (by omega), if_neg (by omega), if_neg (by omega), if_pos c1]
    rw [if_neg (fun q => c1 q.2)]
    by_cases c2 : k = 10
    · rw [if_pos ⟨rfl, c2⟩, if_neg (by omega), if_neg (by omega), if_pos c2]
    rw [if_neg (fun q => c2 q.2)]
    by_cases c3 : k = 9
    · rw [if_pos ⟨rfl, c3⟩, if_neg (by omega), if_pos c3]
    rw [if_neg (fun q => c3 q.2)]
    by_cases c4 : k = 8
    · rw [if_pos ⟨rfl, c4⟩, if_pos c4]
    rw [if_neg (fun q => c4 q.2), if_neg c4, if_neg c3, if_neg c2, if_neg c1]
  have r1 : hR (mM13 h) 361 1 = 362 := by
    rw [s13.2.2.2.2.2.1 1, if_neg (by decide)]
    rw [s12.2.2.2.2.2.1 1, if_neg (by decide)]
    show hR (mM10 h) 361 1 = 362
    rw [s10.2.2.2.2.2.1 1, if_neg (by decide)]
    rw [s9.2.2.2.2.2.1 1, if_neg (by decide)]
    show hR (mM7 h) 361 1 = 362
    rw [s7.2.2.2.2.2.1 1, if_neg (by decide)]
    rw [s6.2.2.2.2.2.1 1, if_neg (by decide)]
    rw [s5.2.2.2.2.2.1 1, if_neg (by decide)]
    rw [s4.2.2.2.2.2.1 1, if_neg (by decide)]
    rw [s3.2.2.2.2.2.1 1, if_neg (by decide)]
    rw [s2.2.2.2.2.2.1 1, if_neg (by decide)]
    rw [s1.2.2.2.2.2.1 1, if_pos rfl, n0]
  have r2 : hR (mM13 h) 361 2 = 363 := by
    rw [s13.2.2.2.2.2.1 2, if_neg (by decide)]
    rw [s12.2.2.2.2.2.1 2, if_neg (by decide)]
    show hR (mM10 h) 361 2 = 363
    rw [s10.2.2.2.2.2.1 2, if_neg (by decide)]
    rw [s9.2.2.2.2.2.1 2, if_neg (by decide)]
    show hR (mM7 h) 361 2 = 363
    rw [s7.2.2.2.2.2.1 2, if_neg (by decide)]
    rw [s6.2.2.2.2.2.1 2, if_neg (by decide)]
    rw [s5.2.2.2.2.2.1 2, if_neg (by decide)]
    rw [s4.2.2.2.2.2.1 2, if_neg (by decide)]
    rw [s3.2.2.2.2.2.1 2, if_neg (by decide)]
    rw [s2.2.2.2.2.2.1 2, if_pos rfl, n1]
  have r3 : hR (mM13 h) 361 3 = 364 := by
    rw [s13.2.2.2.2.2.1 3, if_neg (by decide)]
    rw [s12.2.2.2.2.2.1 3, if_neg (by decide)]
    show hR (mM10 h) 361 3 = 364
    rw [s10.2.2.2.2.2.1 3, if_neg (by decide)]
    rw [s9.2.2.2.2.2.1 3, if_neg (by decide)]
    show hR (mM7 h) 361 3 = 364
    rw [s7.2.2.2.2.2.1 3, if_neg (by decide)]
    rw [s6.2.2.2.2.2.1 3, if_neg (by decide)]
    rw [s5.2.2.2.2.2.1 3, if_neg (by decide)]
    rw [s4.2.2.2.2.2.1 3, if_neg (by decide)]
    rw [s3.2.2.2.2.2.1 3, if_pos rfl, n2]
  have r4 : hR (mM13 h) 361 4 = 365 := by
    rw [s13.2.2.2.2.2.1 4, if_neg (by decide)]
    rw [s12.2.2.2.2.2.1 4, if_neg (by decide)]
    show hR (mM10 h) 361 4 = 365
    rw [s10.2.2.2.2.2.1 4, if_neg (by decide)]
    rw [s9.2.2.2.2.2.1 4, if_neg (by decide)]
    show hR (mM7 h) 361 4 = 365
    rw [s7.2.2.2.2.2.1 4, if_neg (by decide)]
    rw [s6.2.2.2.2.2.1 4, if_neg (by decide)]
    rw [s5.2.2.2.2.2.1 4, if_neg (by decide)]
    rw [s4.2.2.2.2.2.1 4, if_pos rfl, n3]
  have r5 : hR (mM13 h) 361 5 = 366 := by
    rw [s13.2.2.2.2.2.1 5, if_neg (by decide)]
    rw [s12.2.2.2.2.2.1 5, if_neg (by decide)]
    show hR (mM10 h) 361 5 = 366
    rw [s10.2.2.2.2.2.1 5, if_neg (by decide)]
    rw [s9.2.2.2.2.2.1 5, if_neg (by decide)]
    show hR (mM7 h) 361 5 = 366
    rw [s7.2.2.2.2.2.1 5, if_neg (by decide)]
    rw [s6.2.2.2.2.2.1 5, if_neg (by decide)]
    rw [s5.2.2.2.2.2.1 5, if_pos rfl, n4]
  have r6 : hR (mM13 h) 361 6 = 367 := by
    rw [s13.2.2.2.2.2.1 6, if_neg (by decide)]
    rw [s12.2.2.2.2.2.1 6, if_neg (by decide)]
    show hR (mM10 h) 361 6 = 367
    rw [s10.2.2.2.2.2.1 6, if_neg (by decide)]
    rw [s9.2.2.2.2.2.1 6, if_neg (by decide)]
    show hR (mM7 h) 361 6 = 367
    rw [s7.2.2.2.2.2.1 6, if_neg (by decide)]
    rw [s6.2.2.2.2.2.1 6, if_pos rfl, n5]
  have r7 : hR (mM13 h) 361 7 = 368 := by
    rw [s13.2.2.2.2.2.1 7, if_neg (by decide)]
    rw [s12.2.2.2.2.2.1 7, if_neg (by decide)]
    show hR (mM10 h) 361 7 = 368
    rw [s10.2.2.2.2.2.1 7, if_neg (by decide)]
    rw [s9.2.2.2.2.2.1 7, if_neg (by decide)]
    show hR (mM7 h) 361 7 = 368
    rw [s7.2.2.2.2.2.1 7, if_pos rfl, n6]
  have r15 : hR (mM13 h) 361 15 = 369 := by
    rw [s13.2.2.2.2.2.1 15, if_neg (by decide)]
    rw [s12.2.2.2.2.2.1 15, if_neg (by decide)]
    show hR (mM10 h) 361 15 = 369
    rw [s10.2.2.2.2.2.1 15, if_neg (by decide)]
    rw [s9.2.2.2.2.2.1 15, if_pos rfl, n8]
  have r16 : hR (mM13 h) 361 16 = 370 := by
    rw [s13.2.2.2.2.2.1 16, if_neg (by decide)]
    rw [s12.2.2.2.2.2.1 16, if_neg (by decide)]
    show hR (mM10 h) 361 16 = 370
    rw [s10.2.2.2.2.2.1 16, if_pos rfl, n9]
  have r21 : hR (mM13 h) 361 21 = 371 := by
    rw [s13.2.2.2.2.2.1 21, if_neg (by decide)]
    rw [s12.2.2.2.2.2.1 21, if_pos rfl, n11]
  have r22 : hR (mM13 h) 361 22 = 372 := by
    rw [s13.2.2.2.2.2.1 22, if_pos rfl, n12]
  have c362 : hT (mM13 h) 362 = (100, 128) ∧ (∀ k, hI (mM13 h) 362 k = 0) ∧ (∀ k, hJ (mM13 h) 362 k = 0) ∧ ∀ k, hR (mM13 h) 362 k = 0 := by
    obtain ⟨a1, a2, a3, a4⟩ := k1 362 (by omega) (by omega)
    obtain ⟨b1, b2, b3, b4⟩ := s1.2.2.2.2.2.2.2
    rw [n0] at b1 b2 b3 b4
    rw [a1, a2, a3, a4]
    exact ⟨b1, b2, b3, fun k => by rw [b4, if_neg (fun q => absurd q.1 (by decide))]⟩
  have c363 : hT (mM13 h) 363 = (100, 128) ∧ (∀ k, hI (mM13 h) 363 k = 0) ∧ (∀ k, hJ (mM13 h) 363 k = 0) ∧ ∀ k, hR (mM13 h) 363 k = 0 := by
    obtain ⟨a1, a2, a3, a4⟩ := k2 363 (by omega) (by omega)
    obtain ⟨b1, b2, b3, b4⟩ := s2.2.2.2.2.2.2.2
    rw [n1] at b1 b2 b3 b4
    rw [a1, a2, a3, a4]
    exact ⟨b1, b2, b3, fun k => by rw [b4, if_neg (fun q => absurd q.1 (by decide))]⟩
  have c364 : hT (mM13 h) 364 = (100, 64) ∧ (∀ k, hI (mM13 h) 364 k = 0) ∧ (∀ k, hJ (mM13 h) 364 k = 0) ∧ ∀ k, hR (mM13 h) 364 k = 0 := by
    obtain ⟨a1, a2, a3, a4⟩ := k3 364 (by omega) (by omega)
    obtain ⟨b1, b2, b3, b4⟩ := s3.2.2.2.2.2.2.2
    rw [n2] at b1 b2 b3 b4
    rw [a1, a2, a3, a4]
    exact ⟨b1, b2, b3, fun k => by rw [b4, if_neg (fun q => absurd q.1 (by decide))]⟩
  have c365 : hT (mM13 h) 365 = (3, 0) ∧ (∀ k, hI (mM13 h) 365 k = 0) ∧ (∀ k, hJ (mM13 h) 365 k = 0) ∧ ∀ k, hR (mM13 h) 365 k = if k = 1 then 257 else 0 := by
    obtain ⟨a1, a2, a3, a4⟩ := k4 365 (by omega) (by omega)
    obtain ⟨b1, b2, b3, b4⟩ := s4.2.2.2.2.2.2.2
    rw [n3] at b1 b2 b3 b4
    rw [a1, a2, a3, a4]
    exact ⟨b1, b2, b3, fun k => by rw [b4]; by_cases c : k = 1 <;> simp [c]⟩
  have c366 : hT (mM13 h) 366 = (100, 8) ∧ (∀ k, hI (mM13 h) 366 k = 0) ∧ (∀ k, hJ (mM13 h) 366 k = 0) ∧ ∀ k, hR (mM13 h) 366 k = 0 := by
    obtain ⟨a1, a2, a3, a4⟩ := k5 366 (by omega) (by omega)
    obtain ⟨b1, b2, b3, b4⟩ := s5.2.2.2.2.2.2.2
    rw [n4] at b1 b2 b3 b4
    rw [a1, a2, a3, a4]
    exact ⟨b1, b2, b3, fun k => by rw [b4, if_neg (fun q => absurd q.1 (by decide))]⟩
  have c367 : hT (mM13 h) 367 = (100, 2) ∧ (∀ k, hI (mM13 h) 367 k = 0) ∧ (∀ k, hJ (mM13 h) 367 k = 0) ∧ ∀ k, hR (mM13 h) 367 k = 0 := by
    obtain ⟨a1, a2, a3, a4⟩ := k6 367 (by omega) (by omega)
    obtain ⟨b1, b2, b3, b4⟩ := s6.2.2.2.2.2.2.2
    rw [n5] at b1 b2 b3 b4
    rw [a1, a2, a3, a4]
    exact ⟨b1, b2, b3, fun k => by rw [b4, if_neg (fun q => absurd q.1 (by decide))]⟩
  have c368 : hT (mM13 h) 368 = (107, 16) ∧ (∀ k, hI (mM13 h) 368 k = 0) ∧ (∀ k, hJ (mM13 h) 368 k = 0) ∧ ∀ k, hR (mM13 h) 368 k = 0 := by
    obtain ⟨a1, a2, a3, a4⟩ := k7 368 (by omega) (by omega)
    obtain ⟨b1, b2, b3, b4⟩ := s7.2.2.2.2.2.2.2
    rw [n6] at b1 b2 b3 b4
    rw [a1, a2, a3, a4]
    exact ⟨b1, b2, b3, fun k => by rw [b4, if_neg (fun q => absurd q.1 (by decide))]⟩
  have c369 : hT (mM13 h) 369 = (101, 3) ∧ (∀ k, hI (mM13 h) 369 k = 0) ∧ (∀ k, hJ (mM13 h) 369 k = 0) ∧ ∀ k, hR (mM13 h) 369 k = 0 := by
    obtain ⟨a1, a2, a3, a4⟩ := k9 369 (by omega) (by omega)
    obtain ⟨b1, b2, b3, b4⟩ := s9.2.2.2.2.2.2.2
    rw [n8] at b1 b2 b3 b4
    rw [a1, a2, a3, a4]
    exact ⟨b1, b2, b3, fun k => by rw [b4, if_neg (fun q => absurd q.1 (by decide))]⟩
  have c370 : hT (mM13 h) 370 = (100, 128) ∧ (∀ k, hI (mM13 h) 370 k = 0) ∧ (∀ k, hJ (mM13 h) 370 k = 0) ∧ ∀ k, hR (mM13 h) 370 k = 0 := by
    obtain ⟨a1, a2, a3, a4⟩ := k10 370 (by omega) (by omega)
    obtain ⟨b1, b2, b3, b4⟩ := s10.2.2.2.2.2.2.2
    rw [n9] at b1 b2 b3 b4
    rw [a1, a2, a3, a4]
    exact ⟨b1, b2, b3, fun k => by rw [b4, if_neg (fun q => absurd q.1 (by decide))]⟩
  have c371 : hT (mM13 h) 371 = (3, 0) ∧ (∀ k, hI (mM13 h) 371 k = 0) ∧ (∀ k, hJ (mM13 h) 371 k = 0) ∧ ∀ k, hR (mM13 h) 371 k = if k = 1 then 257 else 0 := by
    obtain ⟨a1, a2, a3, a4⟩ := k12 371 (by omega) (by omega)
    obtain ⟨b1, b2, b3, b4⟩ := s12.2.2.2.2.2.2.2
    rw [n11] at b1 b2 b3 b4
    rw [a1, a2, a3, a4]
    exact ⟨b1, b2, b3, fun k => by rw [b4]; by_cases c : k = 1 <;> simp [c]⟩
  have c372 : hT (mM13 h) 372 = (3, 0) ∧ (∀ k, hI (mM13 h) 372 k = 0) ∧ (∀ k, hJ (mM13 h) 372 k = 0) ∧ ∀ k, hR (mM13 h) 372 k = if k = 1 then 257 else 0 := by
    obtain ⟨a1, a2, a3, a4⟩ := k13 372 (by omega) (by omega)
    obtain ⟨b1, b2, b3, b4⟩ := s13.2.2.2.2.2.2.2
    rw [n12] at b1 b2 b3 b4
    rw [a1, a2, a3, a4]
    exact ⟨b1, b2, b3, fun k => by rw [b4]; by_cases c : k = 1 <;> simp [c]⟩
  unfold mkMod
  rw [rt.1, rt.2.1, rt.2.2.1, rt.2.2.2]
  refine ⟨n13, fun x h1 h2 => ?_, by rw [T13]; exact t0, fun k => by rw [J13]; exact hj k, fun k => by rw [mLg_I, if_neg (by omega)]; exact I361 k, r1, r2, r3, r4, r5, r6, r7, r15, r16, r21, r22, c362.1, c363.1, c364.1, c365.1, c366.1, c367.1, c368.1, c369.1, c370.1, c371.1, c372.1, fun x h1 h2 => ⟨fun k => ?_, fun k => ?_, fun k => ?_⟩⟩
  · obtain ⟨a1, a2, a3, a4⟩ := l13 x h1 h2
    exact ⟨by rw [rt.1]; exact a1, funext fun k => by rw [mLg_I, if_neg (by omega), a2], by rw [rt.2.2.2]; exact a3, by rw [rt.2.1]; exact a4⟩
  · rw [mLg_I]
    by_cases c : x = 370 ∧ k < 128
    · rw [if_pos c, if_pos c]
    rw [if_neg c, if_neg c]
    by_cases q362 : x = 362
    · rw [q362]; exact c362.2.1 k
    by_cases q363 : x = 363
    · rw [q363]; exact c363.2.1 k
    by_cases q364 : x = 364
    · rw [q364]; exact c364.2.1 k
    by_cases q365 : x = 365
    · rw [q365]; exact c365.2.1 k
    by_cases q366 : x = 366
    · rw [q366]; exact c366.2.1 k
    by_cases q367 : x = 367
    · rw [q367]; exact c367.2.1 k
    by_cases q368 : x = 368
    · rw [q368]; exact c368.2.1 k
    by_cases q369 : x = 369
    · rw [q369]; exact c369.2.1 k
    by_cases q370 : x = 370
    · rw [q370]; exact c370.2.1 k
    by_cases q371 : x = 371
    · rw [q371]; exact c371.2.1 k
    have q372 : x = 372 := by omega
    rw [q372]; exact c372.2.1 k
  · by_cases q362 : x = 362
    · rw [q362]; exact c362.2.2.1 k
    by_cases q363 : x = 363
    · rw [q363]; exact c363.2.2.1 k
    by_cases q364 : x = 364
    · rw [q364]; exact c364.2.2.1 k
    by_cases q365 : x = 365
    · rw [q365]; exact c365.2.2.1 k
    by_cases q366 : x = 366
    · rw [q366]; exact c366.2.2.1 k
    by_cases q367 : x = 367
    · rw [q367]; exact c367.2.2.1 k
    by_cases q368 : x = 368
    · rw [q368]; exact c368.2.2.1 k
    by_cases q369 : x = 369
    · rw [q369]; exact c369.2.2.1 k
    by_cases q370 : x = 370
    · rw [q370]; exact c370.2.2.1 k
    by_cases q371 : x = 371
    · rw [q371]; exact c371.2.2.1 k
    have q372 : x = 372 := by omega
    rw [q372]; exact c372.2.2.1 k
  · by_cases q362 : x = 362
    · rw [q362]; rw [c362.2.2.2 k, if_neg (by omega)]
    by_cases q363 : x = 363
    · rw [q363]; rw [c363.2.2.2 k, if_neg (by omega)]
    by_cases q364 : x = 364
    · rw [q364]; rw [c364.2.2.2 k, if_neg (by omega)]
    by_cases q365 : x = 365
    · rw [q365]; rw [c365.2.2.2 k]; by_cases c : k = 1 <;> simp [c]
    by_cases q366 : x = 366
    · rw [q366]; rw [c366.2.2.2 k, if_neg (by omega)]
    by_cases q367 : x = 367
    · rw [q367]; rw [c367.2.2.2 k, if_neg (by omega)]
    by_cases q368 : x = 368
    · rw [q368]; rw [c368.2.2.2 k, if_neg (by omega)]
    by_cases q369 : x = 369
    · rw [q369]; rw [c369.2.2.2 k, if_neg (by omega)]
    by_cases q370 : x = 370
    · rw [q370]; rw [c370.2.2.2 k, if_neg (by omega)]
    by_cases q371 : x = 371
    · rw [q371]; rw [c371.2.2.2 k]; by_cases c : k = 1 <;> simp [c]
    have q372 : x = 372 := by omega
    rw [q372]; rw [c372.2.2.2 k]; by_cases c : k = 1 <;> simp [c]
theorem mod_init {h : CH} {Q : QT} (hn : hN h = 362) (t0 : (hT h 361).1 = 16) (k : Q (.inl []) (mkMod h)) : wX12_init [.ref 361] h Q := by
  refine wgo (fun X hX => ?_) (by show 1 ≤ 2; decide)
  have n0 : hN h = 362 := hn
  have s1 : Stm (mM1 h) h 1 (100, 128) := stm_A (by omega) (by decide)
  have n1 : hN (mM1 h) = 363 := by rw [s1.2.2.2.2.2.2.1, n0]
  have t1 : (hT (mM1 h) 361).1 = 16 := by rw [s1.2.2.1]; exact t0
  have s2 : Stm (mM2 h) (mM1 h) 2 (100, 128) := stm_A (by omega) (by decide)
  have n2 : hN (mM2 h) = 364 := by rw [s2.2.2.2.2.2.2.1, n1]
  have t2 : (hT (mM2 h) 361).1 = 16 := by rw [s2.2.2.1]; exact t1
  have s3 : Stm (mM3 h) (mM2 h) 3 (100, 64) := stm_A (by omega) (by decide)
  have n3 : hN (mM3 h) = 365 := by rw [s3.2.2.2.2.2.2.1, n2]
  have t3 : (hT (mM3 h) 361).1 = 16 := by rw [s3.2.2.1]; exact t2
  have s4 : Stm (mM4 h) (mM3 h) 4 (3, 0) := stm_L (by omega)
  have n4 : hN (mM4 h) = 366 := by rw [s4.2.2.2.2.2.2.1, n3]
  have t4 : (hT (mM4 h) 361).1 = 16 := by rw [s4.2.2.1]; exact t3
  have s5 : Stm (mM5 h) (mM4 h) 5 (100, 8) := stm_A (by omega) (by decide)
  have n5 : hN (mM5 h) = 367 := by rw [s5.2.2.2.2.2.2.1, n4]
  have t5 : (hT (mM5 h) 361).1 = 16 := by rw [s5.2.2.1]; exact t4
  have s6 : Stm (mM6 h) (mM5 h) 6 (100, 2) := stm_A (by omega) (by decide)
  have n6 : hN (mM6 h) = 368 := by rw [s6.2.2.2.2.2.2.1, n5]
  have t6 : (hT (mM6 h) 361).1 = 16 := by rw [s6.2.2.1]; exact t5
  have s7 : Stm (mM7 h) (mM6 h) 7 (107, 16) := stm_A (by omega) (by decide)
  have n7 : hN (mM7 h) = 369 := by rw [s7.2.2.2.2.2.2.1, n6]
  have t7 : (hT (mM7 h) 361).1 = 16 := by rw [s7.2.2.1]; exact t6
  have n8 : hN (mM8 h) = 369 := n7
  have t8 : (hT (mM8 h) 361).1 = 16 := t7
  have s9 : Stm (mM9 h) (mM8 h) 15 (101, 3) := stm_A (by omega) (by decide)
  have n9 : hN (mM9 h) = 370 := by rw [s9.2.2.2.2.2.2.1, n8]
  have t9 : (hT (mM9 h) 361).1 = 16 := by rw [s9.2.2.1]; exact t8
  have s10 : Stm (mM10 h) (mM9 h) 16 (100, 128) := stm_A (by omega) (by decide)
  have n10 : hN (mM10 h) = 371 := by rw [s10.2.2.2.2.2.2.1, n9]
  have t10 : (hT (mM10 h) 361).1 = 16 := by rw [s10.2.2.1]; exact t9
  have n11 : hN (mM11 h) = 371 := n10
  have t11 : (hT (mM11 h) 361).1 = 16 := t10
  have s12 : Stm (mM12 h) (mM11 h) 21 (3, 0) := stm_L (by omega)
  have n12 : hN (mM12 h) = 372 := by rw [s12.2.2.2.2.2.2.1, n11]
  have t12 : (hT (mM12 h) 361).1 = 16 := by rw [s12.2.2.1]; exact t11
  have s13 : Stm (mM13 h) (mM12 h) 22 (3, 0) := stm_L (by omega)
  have n13 : hN (mM13 h) = 373 := by rw [s13.2.2.2.2.2.2.1, n12]
  have t13 : (hT (mM13 h) 361).1 = 16 := by rw [s13.2.2.1]; exact t12
  have r16 : hR (mM13 h) 361 16 = 370 := by
    rw [s13.2.2.2.2.2.1 16, if_neg (by decide), s12.2.2.2.2.2.1 16, if_neg (by decide)]
    show hR (mM10 h) 361 16 = 370
    rw [s10.2.2.2.2.2.1 16, if_pos rfl, n9]
  have u370 : hT (mM13 h) 370 = (100, 128) := by
    rw [((s13.hi n12) 370 (by omega) (by omega)).1, ((s12.hi n11) 370 (by omega) (by omega)).1]
    have e := s10.2.2.2.2.2.2.2.1
    rw [n9] at e
    exact e
  (refine go mX12_init hX [4] 400 ?_; conv => whnf)
  repeat (first | (refine rs ?_; conv => whnf) | unfold k_call | ((with_reducible refine And.intro ?_ ?_); (first | (first | assumption | rfl | exact True.intro | exact Nat.le_of_ble_eq_true rfl | exact Or.inl rfl | exact Or.inr rfl | exact okv3 (by assumption) | decide | (focus (simp (disch := omega) only [t0, nI_clamp, vp_in_nI, hT_sI, hR_sI, hT_sJ, hR_sJ, hT_sR, hI_sJ, hI_sR, hJ_sI, hJ_sR, hI_eq, hI_ne, hI_nk]; done)) | (focus (simp (disch := omega) only [t0, nI_clamp, vp_in_nI, hT_sI, hR_sI, hT_sJ, hR_sJ, hT_sR, hI_sJ, hI_sR, hJ_sI, hJ_sR, hI_eq, hI_ne, hI_nk]; first | assumption | exact okv3 (by assumption)))) | (focus (refine ⟨_, rfl, ?_⟩; (first | assumption | rfl | exact True.intro | exact Nat.le_of_ble_eq_true rfl | exact Or.inl rfl | exact Or.inr rfl | exact okv3 (by assumption) | decide | (focus (simp (disch := omega) only [t0, nI_clamp, vp_in_nI, hT_sI, hR_sI, hT_sJ, hR_sJ, hT_sR, hI_sJ, hI_sR, hJ_sI, hJ_sR, hI_eq, hI_ne, hI_nk]; done)) | (focus (simp (disch := omega) only [t0, nI_clamp, vp_in_nI, hT_sI, hR_sI, hT_sJ, hR_sJ, hT_sR, hI_sJ, hI_sR, hJ_sI, hJ_sR, hI_eq, hI_ne, hI_nk]; first | assumption | exact okv3 (by assumption)))))))))
  refine ms_4 hX t0 (by omega) ?_
  refine ms_13 hX t1 (by show 361 < hN (mM1 h); omega) ?_
  refine ms_22 hX t2 (by show 361 < hN (mM2 h); omega) ?_
  refine ms_30 hX t3 (by show 361 < hN (mM3 h); omega) ?_
  refine ms_41 hX t4 (by show 361 < hN (mM4 h); omega) ?_
  refine ms_49 hX t5 (by show 361 < hN (mM5 h); omega) ?_
  refine ms_56 hX t6 (by show 361 < hN (mM6 h); omega) ?_
  refine ms_65 hX t7 ?_
  refine ms_82 hX t8 (by show 361 < hN (mM8 h); omega) ?_
  refine ms_89 hX t9 (by show 361 < hN (mM9 h); omega) ?_
  refine ms_98 hX t10 ?_
  refine ms_103 hX t11 (by show 361 < hN (mM11 h); omega) ?_
  refine ms_114 hX t12 (by show 361 < hN (mM12 h); omega) ?_
  exact ms_125 hX t13 r16 u370 k
