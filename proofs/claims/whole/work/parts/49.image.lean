/-! AN IMAGE OF A NUMBER -/
theorem imageOf_ok {h : CH} {x : Int32} {n : Nat} {Q : QT} (hL : Lay h) (hk : hI h 300 8 = nI n) (h4 : n ≤ 4) (k1 : ∀ i, i < n → x = nI i → ¬ hR h 359 i = 0 → Q (.inl [.ref (hR h 359 i)]) h) (k0 : (x < 0 ∨ nI n ≤ x ∨ ∃ i, i < n ∧ x = nI i ∧ hR h 359 i = 0) → Q (.inr "java/lang/IndexOutOfBoundsException") h) : wX9_imageOf [.ref 300, .int x] h Q := by
  refine wgo (fun X hX => ?_) (by show 2 ≤ 2; decide)
  obtain ⟨l0, l1, l2, l3, l4, l5, l6, l7, l8, l9, l10, l11, l12, l13, l14, l15, l16, l17, l18, l19, l20⟩ := id hL
  (refine go mX9_imageOf hX [] 400 ?_; conv => whnf)
  repeat (first | (refine rs ?_; conv => whnf) | unfold k_call | ((with_reducible refine And.intro ?_ ?_); (first | (first | assumption | rfl | exact True.intro | exact Nat.le_of_ble_eq_true rfl | exact Or.inl rfl | exact Or.inr rfl | exact okv3 (by assumption) | decide | (focus (simp (disch := omega) only [l0, l1, l2, l3, l4, l5, l6, l7, l8, l9, l10, l11, l19, hk, nI_clamp, vp_in_nI, hT_sI, hR_sI, hT_sJ, hR_sJ, hT_sR, hI_sJ, hI_sR, hJ_sI, hJ_sR, hI_eq, hI_ne, hI_nk]; done)) | (focus (simp (disch := omega) only [l0, l1, l2, l3, l4, l5, l6, l7, l8, l9, l10, l11, l19, hk, nI_clamp, vp_in_nI, hT_sI, hR_sI, hT_sJ, hR_sJ, hT_sR, hI_sJ, hI_sR, hJ_sI, hJ_sR, hI_eq, hI_ne, hI_nk]; first | assumption | exact okv3 (by assumption)))) | (focus (refine ⟨_, rfl, ?_⟩; (first | assumption | rfl | exact True.intro | exact Nat.le_of_ble_eq_true rfl | exact Or.inl rfl | exact Or.inr rfl | exact okv3 (by assumption) | decide | (focus (simp (disch := omega) only [l0, l1, l2, l3, l4, l5, l6, l7, l8, l9, l10, l11, l19, hk, nI_clamp, vp_in_nI, hT_sI, hR_sI, hT_sJ, hR_sJ, hT_sR, hI_sJ, hI_sR, hJ_sI, hJ_sR, hI_eq, hI_ne, hI_nk]; done)) | (focus (simp (disch := omega) only [l0, l1, l2, l3, l4, l5, l6, l7, l8, l9, l10, l11, l19, hk, nI_clamp, vp_in_nI, hT_sI, hR_sI, hT_sJ, hR_sJ, hT_sR, hI_sJ, hI_sR, hJ_sI, hJ_sR, hI_eq, hI_ne, hI_nk]; first | assumption | exact okv3 (by assumption)))))))))
  (refine ⟨fun a => ?_, fun a => ?_⟩ <;> (try dsimp only at a))
  · repeat (first | (refine rs ?_; conv => whnf) | unfold k_call | ((with_reducible refine And.intro ?_ ?_); (first | (first | assumption | rfl | exact True.intro | exact Nat.le_of_ble_eq_true rfl | exact Or.inl rfl | exact Or.inr rfl | exact okv3 (by assumption) | decide | (focus (simp (disch := omega) only [l0, l1, l2, l3, l4, l5, l6, l7, l8, l9, l10, l11, l19, hk, nI_clamp, vp_in_nI, hT_sI, hR_sI, hT_sJ, hR_sJ, hT_sR, hI_sJ, hI_sR, hJ_sI, hJ_sR, hI_eq, hI_ne, hI_nk]; done)) | (focus (simp (disch := omega) only [l0, l1, l2, l3, l4, l5, l6, l7, l8, l9, l10, l11, l19, hk, nI_clamp, vp_in_nI, hT_sI, hR_sI, hT_sJ, hR_sJ, hT_sR, hI_sJ, hI_sR, hJ_sI, hJ_sR, hI_eq, hI_ne, hI_nk]; first | assumption | exact okv3 (by assumption)))) | (focus (refine ⟨_, rfl, ?_⟩; (first | assumption | rfl | exact True.intro | exact Nat.le_of_ble_eq_true rfl | exact Or.inl rfl | exact Or.inr rfl | exact okv3 (by assumption) | decide | (focus (simp (disch := omega) only [l0, l1, l2, l3, l4, l5, l6, l7, l8, l9, l10, l11, l19, hk, nI_clamp, vp_in_nI, hT_sI, hR_sI, hT_sJ, hR_sJ, hT_sR, hI_sJ, hI_sR, hJ_sI, hJ_sR, hI_eq, hI_ne, hI_nk]; done)) | (focus (simp (disch := omega) only [l0, l1, l2, l3, l4, l5, l6, l7, l8, l9, l10, l11, l19, hk, nI_clamp, vp_in_nI, hT_sI, hR_sI, hT_sJ, hR_sJ, hT_sR, hI_sJ, hI_sR, hJ_sI, hJ_sR, hI_eq, hI_ne, hI_nk]; first | assumption | exact okv3 (by assumption)))))))))
    exact k0 (Or.inl a)
  · repeat (first | (refine rs ?_; conv => whnf) | unfold k_call | ((with_reducible refine And.intro ?_ ?_); (first | (first | assumption | rfl | exact True.intro | exact Nat.le_of_ble_eq_true rfl | exact Or.inl rfl | exact Or.inr rfl | exact okv3 (by assumption) | decide | (focus (simp (disch := omega) only [l0, l1, l2, l3, l4, l5, l6, l7, l8, l9, l10, l11, l19, hk, nI_clamp, vp_in_nI, hT_sI, hR_sI, hT_sJ, hR_sJ, hT_sR, hI_sJ, hI_sR, hJ_sI, hJ_sR, hI_eq, hI_ne, hI_nk]; done)) | (focus (simp (disch := omega) only [l0, l1, l2, l3, l4, l5, l6, l7, l8, l9, l10, l11, l19, hk, nI_clamp, vp_in_nI, hT_sI, hR_sI, hT_sJ, hR_sJ, hT_sR, hI_sJ, hI_sR, hJ_sI, hJ_sR, hI_eq, hI_ne, hI_nk]; first | assumption | exact okv3 (by assumption)))) | (focus (refine ⟨_, rfl, ?_⟩; (first | assumption | rfl | exact True.intro | exact Nat.le_of_ble_eq_true rfl | exact Or.inl rfl | exact Or.inr rfl | exact okv3 (by assumption) | decide | (focus (simp (disch := omega) only [l0, l1, l2, l3, l4, l5, l6, l7, l8, l9, l10, l11, l19, hk, nI_clamp, vp_in_nI, hT_sI, hR_sI, hT_sJ, hR_sJ, hT_sR, hI_sJ, hI_sR, hJ_sI, hJ_sR, hI_eq, hI_ne, hI_nk]; done)) | (focus (simp (disch := omega) only [l0, l1, l2, l3, l4, l5, l6, l7, l8, l9, l10, l11, l19, hk, nI_clamp, vp_in_nI, hT_sI, hR_sI, hT_sJ, hR_sJ, hT_sR, hI_sJ, hI_sR, hJ_sI, hJ_sR, hI_eq, hI_ne, hI_nk]; first | assumption | exact okv3 (by assumption)))))))))
    rw [hk]
    (refine ⟨fun b => ?_, fun b => ?_⟩ <;> (try dsimp only at b))
    · repeat (first | (refine rs ?_; conv => whnf) | unfold k_call | ((with_reducible refine And.intro ?_ ?_); (first | (first | assumption | rfl | exact True.intro | exact Nat.le_of_ble_eq_true rfl | exact Or.inl rfl | exact Or.inr rfl | exact okv3 (by assumption) | decide | (focus (simp (disch := omega) only [l0, l1, l2, l3, l4, l5, l6, l7, l8, l9, l10, l11, l19, hk, nI_clamp, vp_in_nI, hT_sI, hR_sI, hT_sJ, hR_sJ, hT_sR, hI_sJ, hI_sR, hJ_sI, hJ_sR, hI_eq, hI_ne, hI_nk]; done)) | (focus (simp (disch := omega) only [l0, l1, l2, l3, l4, l5, l6, l7, l8, l9, l10, l11, l19, hk, nI_clamp, vp_in_nI, hT_sI, hR_sI, hT_sJ, hR_sJ, hT_sR, hI_sJ, hI_sR, hJ_sI, hJ_sR, hI_eq, hI_ne, hI_nk]; first | assumption | exact okv3 (by assumption)))) | (focus (refine ⟨_, rfl, ?_⟩; (first | assumption | rfl | exact True.intro | exact Nat.le_of_ble_eq_true rfl | exact Or.inl rfl | exact Or.inr rfl | exact okv3 (by assumption) | decide | (focus (simp (disch := omega) only [l0, l1, l2, l3, l4, l5, l6, l7, l8, l9, l10, l11, l19, hk, nI_clamp, vp_in_nI, hT_sI, hR_sI, hT_sJ, hR_sJ, hT_sR, hI_sJ, hI_sR, hJ_sI, hJ_sR, hI_eq, hI_ne, hI_nk]; done)) | (focus (simp (disch := omega) only [l0, l1, l2, l3, l4, l5, l6, l7, l8, l9, l10, l11, l19, hk, nI_clamp, vp_in_nI, hT_sI, hR_sI, hT_sJ, hR_sJ, hT_sR, hI_sJ, hI_sR, hJ_sI, hJ_sR, hI_eq, hI_ne, hI_nk]; first | assumption | exact okv3 (by assumption)))))))))
      exact k0 (Or.inr (Or.inl b))
    · obtain ⟨j, hj, e⟩ := nI_of a
      subst e
      have hjn : j < n := by
        rw [nI_leI (by omega) hj] at b
        omega
      have hj4 : j < 4 := by omega
      repeat (first | (refine rs ?_; conv => whnf) | unfold k_call | ((with_reducible refine And.intro ?_ ?_); (first | (first | assumption | rfl | exact True.intro | exact Nat.le_of_ble_eq_true rfl | exact Or.inl rfl | exact Or.inr rfl | exact okv3 (by assumption) | decide | (focus (simp (disch := omega) only [l0, l1, l2, l3, l4, l5, l6, l7, l8, l9, l10, l11, l19, hk, nI_clamp, vp_in_nI, hT_sI, hR_sI, hT_sJ, hR_sJ, hT_sR, hI_sJ, hI_sR, hJ_sI, hJ_sR, hI_eq, hI_ne, hI_nk]; done)) | (focus (simp (disch := omega) only [l0, l1, l2, l3, l4, l5, l6, l7, l8, l9, l10, l11, l19, hk, nI_clamp, vp_in_nI, hT_sI, hR_sI, hT_sJ, hR_sJ, hT_sR, hI_sJ, hI_sR, hJ_sI, hJ_sR, hI_eq, hI_ne, hI_nk]; first | assumption | exact okv3 (by assumption)))) | (focus (refine ⟨_, rfl, ?_⟩; (first | assumption | rfl | exact True.intro | exact Nat.le_of_ble_eq_true rfl | exact Or.inl rfl | exact Or.inr rfl | exact okv3 (by assumption) | decide | (focus (simp (disch := omega) only [l0, l1, l2, l3, l4, l5, l6, l7, l8, l9, l10, l11, l19, hk, nI_clamp, vp_in_nI, hT_sI, hR_sI, hT_sJ, hR_sJ, hT_sR, hI_sJ, hI_sR, hJ_sI, hJ_sR, hI_eq, hI_ne, hI_nk]; done)) | (focus (simp (disch := omega) only [l0, l1, l2, l3, l4, l5, l6, l7, l8, l9, l10, l11, l19, hk, nI_clamp, vp_in_nI, hT_sI, hR_sI, hT_sJ, hR_sJ, hT_sR, hI_sJ, hI_sR, hJ_sI, hJ_sR, hI_eq, hI_ne, hI_nk]; first | assumption | exact okv3 (by assumption)))))))))
      (try simp (disch := omega) only [l0, l1, l2, l3, l4, l5, l6, l7, l8, l9, l10, l11, l19, hk, nI_clamp, vp_in_nI, hT_sI, hR_sI, hT_sJ, hR_sJ, hT_sR, hI_sJ, hI_sR, hJ_sI, hJ_sR, hI_eq, hI_ne, hI_nk])
      repeat (first | (refine rs ?_; conv => whnf) | unfold k_call | ((with_reducible refine And.intro ?_ ?_); (first | (first | assumption | rfl | exact True.intro | exact Nat.le_of_ble_eq_true rfl | exact Or.inl rfl | exact Or.inr rfl | exact okv3 (by assumption) | decide | (focus (simp (disch := omega) only [l0, l1, l2, l3, l4, l5, l6, l7, l8, l9, l10, l11, l19, hk, nI_clamp, vp_in_nI, hT_sI, hR_sI, hT_sJ, hR_sJ, hT_sR, hI_sJ, hI_sR, hJ_sI, hJ_sR, hI_eq, hI_ne, hI_nk]; done)) | (focus (simp (disch := omega) only [l0, l1, l2, l3, l4, l5, l6, l7, l8, l9, l10, l11, l19, hk, nI_clamp, vp_in_nI, hT_sI, hR_sI, hT_sJ, hR_sJ, hT_sR, hI_sJ, hI_sR, hJ_sI, hJ_sR, hI_eq, hI_ne, hI_nk]; first | assumption | exact okv3 (by assumption)))) | (focus (refine ⟨_, rfl, ?_⟩; (first | assumption | rfl | exact True.intro | exact Nat.le_of_ble_eq_true rfl | exact Or.inl rfl | exact Or.inr rfl | exact okv3 (by assumption) | decide | (focus (simp (disch := omega) only [l0, l1, l2, l3, l4, l5, l6, l7, l8, l9, l10, l11, l19, hk, nI_clamp, vp_in_nI, hT_sI, hR_sI, hT_sJ, hR_sJ, hT_sR, hI_sJ, hI_sR, hJ_sI, hJ_sR, hI_eq, hI_ne, hI_nk]; done)) | (focus (simp (disch := omega) only [l0, l1, l2, l3, l4, l5, l6, l7, l8, l9, l10, l11, l19, hk, nI_clamp, vp_in_nI, hT_sI, hR_sI, hT_sJ, hR_sJ, hT_sR, hI_sJ, hI_sR, hJ_sI, hJ_sR, hI_eq, hI_ne, hI_nk]; first | assumption | exact okv3 (by assumption)))))))))
      (try simp (disch := omega) only [l0, l1, l2, l3, l4, l5, l6, l7, l8, l9, l10, l11, l19, hk, nI_clamp, vp_in_nI, hT_sI, hR_sI, hT_sJ, hR_sJ, hT_sR, hI_sJ, hI_sR, hJ_sI, hJ_sR, hI_eq, hI_ne, hI_nk])
      (refine ⟨fun c => ?_, fun c => ?_⟩ <;> (try dsimp only at c))
      · repeat (first | (refine rs ?_; conv => whnf) | unfold k_call | ((with_reducible refine And.intro ?_ ?_); (first | (first | assumption | rfl | exact True.intro | exact Nat.le_of_ble_eq_true rfl | exact Or.inl rfl | exact Or.inr rfl | exact okv3 (by assumption) | decide | (focus (simp (disch := omega) only [l0, l1, l2, l3, l4, l5, l6, l7, l8, l9, l10, l11, l19, hk, nI_clamp, vp_in_nI, hT_sI, hR_sI, hT_sJ, hR_sJ, hT_sR, hI_sJ, hI_sR, hJ_sI, hJ_sR, hI_eq, hI_ne, hI_nk]; done)) | (focus (simp (disch := omega) only [l0, l1, l2, l3, l4, l5, l6, l7, l8, l9, l10, l11, l19, hk, nI_clamp, vp_in_nI, hT_sI, hR_sI, hT_sJ, hR_sJ, hT_sR, hI_sJ, hI_sR, hJ_sI, hJ_sR, hI_eq, hI_ne, hI_nk]; first | assumption | exact okv3 (by assumption)))) | (focus (refine ⟨_, rfl, ?_⟩; (first | assumption | rfl | exact True.intro | exact Nat.le_of_ble_eq_true rfl | exact Or.inl rfl | exact Or.inr rfl | exact okv3 (by assumption) | decide | (focus (simp (disch := omega) only [l0, l1, l2, l3, l4, l5, l6, l7, l8, l9, l10, l11, l19, hk, nI_clamp, vp_in_nI, hT_sI, hR_sI, hT_sJ, hR_sJ, hT_sR, hI_sJ, hI_sR, hJ_sI, hJ_sR, hI_eq, hI_ne, hI_nk]; done)) | (focus (simp (disch := omega) only [l0, l1, l2, l3, l4, l5, l6, l7, l8, l9, l10, l11, l19, hk, nI_clamp, vp_in_nI, hT_sI, hR_sI, hT_sJ, hR_sJ, hT_sR, hI_sJ, hI_sR, hJ_sI, hJ_sR, hI_eq, hI_ne, hI_nk]; first | assumption | exact okv3 (by assumption)))))))))
        exact k0 (Or.inr (Or.inr ⟨j, hjn, rfl, c⟩))
      · repeat (first | (refine rs ?_; conv => whnf) | unfold k_call | ((with_reducible refine And.intro ?_ ?_); (first | (first | assumption | rfl | exact True.intro | exact Nat.le_of_ble_eq_true rfl | exact Or.inl rfl | exact Or.inr rfl | exact okv3 (by assumption) | decide | (focus (simp (disch := omega) only [l0, l1, l2, l3, l4, l5, l6, l7, l8, l9, l10, l11, l19, hk, nI_clamp, vp_in_nI, hT_sI, hR_sI, hT_sJ, hR_sJ, hT_sR, hI_sJ, hI_sR, hJ_sI, hJ_sR, hI_eq, hI_ne, hI_nk]; done)) | (focus (simp (disch := omega) only [l0, l1, l2, l3, l4, l5, l6, l7, l8, l9, l10, l11, l19, hk, nI_clamp, vp_in_nI, hT_sI, hR_sI, hT_sJ, hR_sJ, hT_sR, hI_sJ, hI_sR, hJ_sI, hJ_sR, hI_eq, hI_ne, hI_nk]; first | assumption | exact okv3 (by assumption)))) | (focus (refine ⟨_, rfl, ?_⟩; (first | assumption | rfl | exact True.intro | exact Nat.le_of_ble_eq_true rfl | exact Or.inl rfl | exact Or.inr rfl | exact okv3 (by assumption) | decide | (focus (simp (disch := omega) only [l0, l1, l2, l3, l4, l5, l6, l7, l8, l9, l10, l11, l19, hk, nI_clamp, vp_in_nI, hT_sI, hR_sI, hT_sJ, hR_sJ, hT_sR, hI_sJ, hI_sR, hJ_sI, hJ_sR, hI_eq, hI_ne, hI_nk]; done)) | (focus (simp (disch := omega) only [l0, l1, l2, l3, l4, l5, l6, l7, l8, l9, l10, l11, l19, hk, nI_clamp, vp_in_nI, hT_sI, hR_sI, hT_sJ, hR_sJ, hT_sR, hI_sJ, hI_sR, hJ_sI, hJ_sR, hI_eq, hI_ne, hI_nk]; first | assumption | exact okv3 (by assumption)))))))))
        (try simp (disch := omega) only [l0, l1, l2, l3, l4, l5, l6, l7, l8, l9, l10, l11, l19, hk, nI_clamp, vp_in_nI, hT_sI, hR_sI, hT_sJ, hR_sJ, hT_sR, hI_sJ, hI_sR, hJ_sI, hJ_sR, hI_eq, hI_ne, hI_nk])
        repeat (first | (refine rs ?_; conv => whnf) | unfold k_call | ((with_reducible refine And.intro ?_ ?_); (first | (first | assumption | rfl | exact True.intro | exact Nat.le_of_ble_eq_true rfl | exact Or.inl rfl | exact Or.inr rfl | exact okv3 (by assumption) | decide | (focus (simp (disch := omega) only [l0, l1, l2, l3, l4, l5, l6, l7, l8, l9, l10, l11, l19, hk, nI_clamp, vp_in_nI, hT_sI, hR_sI, hT_sJ, hR_sJ, hT_sR, hI_sJ, hI_sR, hJ_sI, hJ_sR, hI_eq, hI_ne, hI_nk]; done)) | (focus (simp (disch := omega) only [l0, l1, l2, l3, l4, l5, l6, l7, l8, l9, l10, l11, l19, hk, nI_clamp, vp_in_nI, hT_sI, hR_sI, hT_sJ, hR_sJ, hT_sR, hI_sJ, hI_sR, hJ_sI, hJ_sR, hI_eq, hI_ne, hI_nk]; first | assumption | exact okv3 (by assumption)))) | (focus (refine ⟨_, rfl, ?_⟩; (first | assumption | rfl | exact True.intro | exact Nat.le_of_ble_eq_true rfl | exact Or.inl rfl | exact Or.inr rfl | exact okv3 (by assumption) | decide | (focus (simp (disch := omega) only [l0, l1, l2, l3, l4, l5, l6, l7, l8, l9, l10, l11, l19, hk, nI_clamp, vp_in_nI, hT_sI, hR_sI, hT_sJ, hR_sJ, hT_sR, hI_sJ, hI_sR, hJ_sI, hJ_sR, hI_eq, hI_ne, hI_nk]; done)) | (focus (simp (disch := omega) only [l0, l1, l2, l3, l4, l5, l6, l7, l8, l9, l10, l11, l19, hk, nI_clamp, vp_in_nI, hT_sI, hR_sI, hT_sJ, hR_sJ, hT_sR, hI_sJ, hI_sR, hJ_sI, hJ_sR, hI_eq, hI_ne, hI_nk]; first | assumption | exact okv3 (by assumption)))))))))
        (try simp (disch := omega) only [l0, l1, l2, l3, l4, l5, l6, l7, l8, l9, l10, l11, l19, hk, nI_clamp, vp_in_nI, hT_sI, hR_sI, hT_sJ, hR_sJ, hT_sR, hI_sJ, hI_sR, hJ_sI, hJ_sR, hI_eq, hI_ne, hI_nk])
        exact k1 j hjn rfl c
def cFgt (h : CH) (a : Nat) : Nat → CH
  | 0 => h
  | n + 1 => cForget (cFgt h a n) 331 (a + n)
theorem House_fgt {h : CH} {a : Nat} (hH : House h) : ∀ n, House (cFgt h a n)
  | 0 => hH
  | n + 1 => ⟨Hse_forget (House_fgt hH n).1, Hol_forget (House_fgt hH n).2⟩
theorem Hol_dropS {h : CH} {x y : Int32} (H : Hol h) : ∀ n, Hol (cDropS h 313 x y n)
  | 0 => H
  | n + 1 => by
    unfold cDropS
    split
    · exact Hol_drop (Hol_dropS H n)
    · exact Hol_dropS H n
theorem Hse_dropS {h : CH} {x y : Int32} (H : Hse h) : ∀ n, n ≤ 16 → Hse (cDropS h 313 x y n)
  | 0, _ => H
  | n + 1, hn => by
    unfold cDropS
    split
    · exact Hse_drop (by omega) (Hse_dropS H n (by omega))
    · exact Hse_dropS H n (by omega)
theorem House_dropS {h : CH} {x y : Int32} (H : House h) : House (cDropS h 313 x y 16) := ⟨Hse_dropS H.1 16 (by omega), Hol_dropS H.2 16⟩
theorem House_powerOn {h : CH} (hH : House h) : House (cPowerOn h).1 := by
  have z := House_pon hH 128 (by omega)
  unfold cPowerOn
  generalize cPOn h 128 = e at z ⊢
  split
  · exact hH
  · exact z
theorem House_begin {h : CH} (hH : House h) : House (cBegin h).1 := by
  unfold cBegin
  split
  · exact hH
  · split
    · exact hH
    · exact House_sI (House_sI hH (OkC_of (by omega)) (by omega)) (OkC_of (by omega)) (by omega)
theorem House_failAt {h : CH} {x : Int32} (hH : House h) : House (cFailAt h x).1 := by
  unfold cFailAt
  split
  · exact hH
  · split
    · exact hH
    · exact House_sI hH (OkC_of (by omega)) (by omega)
theorem House_fail {h : CH} (hH : House h) : House (cFail h).1 := by
  unfold cFail
  split
  · exact hH
  · exact House_lose hH
theorem House_checkpoint {h : CH} (hH : House h) : House (cCheckpoint h).1 := by
  unfold cCheckpoint
  split
  · exact hH
  · exact House_FS 128 0 0 h hH
theorem House_pol {h : CH} {x : Int32} (hH : House h) : House (cPol h x).1 := by
  unfold cPol
  split
  · exact House_sI hH (OkC_of (by omega)) (by omega)
  · exact hH
