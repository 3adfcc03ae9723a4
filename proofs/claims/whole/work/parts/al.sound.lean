/-! isSound OF THE CLASS ANSWERS TRUE; the hit bits, whole -/
theorem isSound_E {n : Nat} {a b : CH} (R : RR n a b) (W : WkI a) (T : TQ a) : ∃ a', (∀ Q : QT, Q (.inl [.int 1]) a' → wX9_isSound [.ref 300] a Q) ∧ RR n a' b ∧ TrO a a' ∧ TQ a' := by
  obtain ⟨l1, l2, l3⟩ := LT_of R
  have ln := R.ln
  obtain ⟨gD, hB, oD, tD⟩ := best_B T R.tr.1 l3 ln.2.1 ln.1
  have cl : ∀ i, i < nN a → ¬ hI a (313 + 2 + i) 0 = -1 → hI a (313 + 2 + i) 3 = 0 → hI a (313 + 2 + i) 1 = cSum a (spN a i) ∧ hI a 332 (spN a i) = 0 := fun i hi q q3 => by
    have hi16 : i < 16 := Nat.lt_of_lt_of_le hi ln.1
    obtain ⟨t, _, P⟩ := pgR R hi16 (fun z => q ((nul_iff R hi16).mp z))
    have c := P.cl q3
    exact ⟨c.2.1, c.2.2⟩
  refine ⟨gD, fun Q k => isSound_ok R.hs R.tr.1 (fun i j hi hj q e => ?_) (fun i hi q q3 ev => ?_) (fun i hi q q3 => (cl i hi q q3).2) ?_ hB k, RR_new R oD ⟨Nat.le_refl _, fun _ _ => rfl, fun _ _ _ => rfl, fun _ _ _ => rfl, fun _ _ _ => rfl⟩, oD, tD⟩
  · have := R.fm.2.2.1 j i (by omega) (by omega) e (fun z => q (by rw [← e, z]; decide))
    omega
  · rw [ev]
    exact (cl i hi q q3).1
  · rw [wk_n R]
    exact W.1
/-- hits and misses are few -/
def CtI (n : Nat) (a : CH) : Prop := ∃ j k, j + k ≤ n ∧ hI a 358 0 = nI j ∧ hI a 358 1 = nI k
theorem getHitBits_C {n : Nat} {a : CH} {Q : QT} (hH : House a) (C : CtI n a) (hn : n ≤ 8192) (k1 : ¬ accS a = 0 → Q (.inl [.int (shareV a).toInt32]) a) (k0 : accS a = 0 → Q (.inr "java/lang/ArithmeticException") a) : wX9_getHitBits [.ref 300] a Q := by
  refine getHitBits_ok hH (fun c Q' q => bitsOf_ok ?_ q) k1 k0
  obtain ⟨j, k, h, e1, e2⟩ := C
  have ea : accS a = nI (j + k) := by
    unfold accS
    rw [e1, e2]
    exact (Int32.ofNat_add _ _).symm
  have h0 : 1 ≤ j + k := by
    rcases Nat.eq_zero_or_pos (j + k) with z | z
    · rw [z] at ea
      exact absurd ea c
    · exact z
  unfold shareV
  rw [e1, ea]
  rcases Nat.eq_zero_or_pos j with z | z
  · subst z
    exact Or.inl (share_zero (by omega) (by omega))
  · exact Or.inr (share_bits z (by omega) (by omega))
