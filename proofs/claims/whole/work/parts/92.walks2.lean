/-! THE REFERENCE'S STEPS, WALKED, II -/
theorem mFalls_eq {g : CH} (e : hI g 361 20 = 0) : mFalls g = mLose g := by
  unfold mFalls mLose
  rw [sI_id (h := sI g 361 19 0) (a := 361) (k := 20) (v := 0) (by rw [hI_nk (by omega)]; exact e)]
theorem falls_rd {g : CH} (e : hI g 361 20 = 0) (ml : MLay g) : hI (mFalls g) 361 19 = 0 ∧ (hT (mFalls g) 361).1 = 16 := by
  rw [mFalls_eq e, mLose_rt.2.2.2.2, if_neg (by omega), if_pos ⟨rfl, rfl⟩, mLose_rt.1]
  exact ⟨rfl, ml.1⟩
theorem fails_ok {n : Nat} {a b : CH} {Q : QT} (R : RR n a b) (hp : hI a 300 14 = 1) (k0 : ¬ Falls a → Q (.inl [.int 0]) (mTick b)) (k1 : Falls a → Q (.inl [.int 1]) (mLose (mTick b))) : wX12_fails [.ref 361] b Q := by
  refine wgo (fun X hX => ?_) (by show 1 ≤ 1; decide)
  have m0 := R.ml.1
  obtain ⟨j, j1, j2⟩ := R.fm.2.2.2.2.1
  have e20 : hI b 361 20 = nI j := (R.sc 20 300 15 (by decide)).trans j2
  have e19 : hI b 361 19 = 1 := (R.sc 19 300 14 (by decide)).trans hp
  rcases (by omega : j = 0 ∨ j = 1 ∨ 2 ≤ j) with q | q | q
  · subst q
    have et : mTick b = b := if_pos e20
    have hF : ¬ Falls a := fun z => z.1 j2
    have z := k0 hF
    rw [et] at z
    (refine go mX12_fails hX [] 400 ?_; conv => whnf)
    repeat (first | (refine rs ?_; conv => whnf) | unfold k_call | ((with_reducible refine And.intro ?_ ?_); (first | (first | assumption | rfl | exact True.intro | exact Nat.le_of_ble_eq_true rfl | exact Or.inl rfl | exact Or.inr rfl | exact okv3 (by assumption) | decide | (focus (simp (disch := omega) only [m0, e20, e19, r0, r20, nI_clamp, vp_in_nI, hT_sI, hR_sI, hT_sJ, hR_sJ, hT_sR, hI_sJ, hI_sR, hJ_sI, hJ_sR, hI_eq, hI_ne, hI_nk]; done)) | (focus (simp (disch := omega) only [m0, e20, e19, r0, r20, nI_clamp, vp_in_nI, hT_sI, hR_sI, hT_sJ, hR_sJ, hT_sR, hI_sJ, hI_sR, hJ_sI, hJ_sR, hI_eq, hI_ne, hI_nk]; first | assumption | exact okv3 (by assumption)))) | (focus (refine ⟨_, rfl, ?_⟩; (first | assumption | rfl | exact True.intro | exact Nat.le_of_ble_eq_true rfl | exact Or.inl rfl | exact Or.inr rfl | exact okv3 (by assumption) | decide | (focus (simp (disch := omega) only [m0, e20, e19, r0, r20, nI_clamp, vp_in_nI, hT_sI, hR_sI, hT_sJ, hR_sJ, hT_sR, hI_sJ, hI_sR, hJ_sI, hJ_sR, hI_eq, hI_ne, hI_nk]; done)) | (focus (simp (disch := omega) only [m0, e20, e19, r0, r20, nI_clamp, vp_in_nI, hT_sI, hR_sI, hT_sJ, hR_sJ, hT_sR, hI_sJ, hI_sR, hJ_sI, hJ_sR, hI_eq, hI_ne, hI_nk]; first | assumption | exact okv3 (by assumption)))))))))
    rw [e20]
    refine br_t rfl ?_
    repeat (first | (refine rs ?_; conv => whnf) | unfold k_call | ((with_reducible refine And.intro ?_ ?_); (first | (first | assumption | rfl | exact True.intro | exact Nat.le_of_ble_eq_true rfl | exact Or.inl rfl | exact Or.inr rfl | exact okv3 (by assumption) | decide | (focus (simp (disch := omega) only [m0, e20, e19, r0, r20, nI_clamp, vp_in_nI, hT_sI, hR_sI, hT_sJ, hR_sJ, hT_sR, hI_sJ, hI_sR, hJ_sI, hJ_sR, hI_eq, hI_ne, hI_nk]; done)) | (focus (simp (disch := omega) only [m0, e20, e19, r0, r20, nI_clamp, vp_in_nI, hT_sI, hR_sI, hT_sJ, hR_sJ, hT_sR, hI_sJ, hI_sR, hJ_sI, hJ_sR, hI_eq, hI_ne, hI_nk]; first | assumption | exact okv3 (by assumption)))) | (focus (refine ⟨_, rfl, ?_⟩; (first | assumption | rfl | exact True.intro | exact Nat.le_of_ble_eq_true rfl | exact Or.inl rfl | exact Or.inr rfl | exact okv3 (by assumption) | decide | (focus (simp (disch := omega) only [m0, e20, e19, r0, r20, nI_clamp, vp_in_nI, hT_sI, hR_sI, hT_sJ, hR_sJ, hT_sR, hI_sJ, hI_sR, hJ_sI, hJ_sR, hI_eq, hI_ne, hI_nk]; done)) | (focus (simp (disch := omega) only [m0, e20, e19, r0, r20, nI_clamp, vp_in_nI, hT_sI, hR_sI, hT_sJ, hR_sJ, hT_sR, hI_sJ, hI_sR, hJ_sI, hJ_sR, hI_eq, hI_ne, hI_nk]; first | assumption | exact okv3 (by assumption)))))))))
    exact z
  · subst q
    have et : mTick b = sI b 361 20 (nI 1 - 1) := by
      unfold mTick
      rw [e20]
      exact if_neg (by decide)
    have hF : Falls a := ⟨by rw [j2]; decide, by rw [j2]; decide⟩
    have z := k1 hF
    rw [et] at z
    have r20 : hI (sI b 361 20 (nI 1 - 1)) 361 20 = 0 := by rw [hI_eq]; rfl
    rw [← mFalls_eq r20] at z
    have ml : MLay (sI b 361 20 (nI 1 - 1)) := R.ml
    have r0 := ml.1
    have step : X 19 [.ref 361] [] (sI b 361 20 (nI 1 - 1)) 0 0 := by
      generalize sI b 361 20 (nI 1 - 1) = g at z r20 ml r0 ⊢
      (refine go mX12_fails hX [] 400 ?_; conv => whnf)
      repeat (first | (refine rs ?_; conv => whnf) | unfold k_call | ((with_reducible refine And.intro ?_ ?_); (first | (first | assumption | rfl | exact True.intro | exact Nat.le_of_ble_eq_true rfl | exact Or.inl rfl | exact Or.inr rfl | exact okv3 (by assumption) | decide | (focus (simp (disch := omega) only [m0, e20, e19, r0, r20, nI_clamp, vp_in_nI, hT_sI, hR_sI, hT_sJ, hR_sJ, hT_sR, hI_sJ, hI_sR, hJ_sI, hJ_sR, hI_eq, hI_ne, hI_nk]; done)) | (focus (simp (disch := omega) only [m0, e20, e19, r0, r20, nI_clamp, vp_in_nI, hT_sI, hR_sI, hT_sJ, hR_sJ, hT_sR, hI_sJ, hI_sR, hJ_sI, hJ_sR, hI_eq, hI_ne, hI_nk]; first | assumption | exact okv3 (by assumption)))) | (focus (refine ⟨_, rfl, ?_⟩; (first | assumption | rfl | exact True.intro | exact Nat.le_of_ble_eq_true rfl | exact Or.inl rfl | exact Or.inr rfl | exact okv3 (by assumption) | decide | (focus (simp (disch := omega) only [m0, e20, e19, r0, r20, nI_clamp, vp_in_nI, hT_sI, hR_sI, hT_sJ, hR_sJ, hT_sR, hI_sJ, hI_sR, hJ_sI, hJ_sR, hI_eq, hI_ne, hI_nk]; done)) | (focus (simp (disch := omega) only [m0, e20, e19, r0, r20, nI_clamp, vp_in_nI, hT_sI, hR_sI, hT_sJ, hR_sJ, hT_sR, hI_sJ, hI_sR, hJ_sI, hJ_sR, hI_eq, hI_ne, hI_nk]; first | assumption | exact okv3 (by assumption)))))))))
      rw [r20]
      refine br_t rfl ?_
      repeat (first | (refine rs ?_; conv => whnf) | unfold k_call | ((with_reducible refine And.intro ?_ ?_); (first | (first | assumption | rfl | exact True.intro | exact Nat.le_of_ble_eq_true rfl | exact Or.inl rfl | exact Or.inr rfl | exact okv3 (by assumption) | decide | (focus (simp (disch := omega) only [m0, e20, e19, r0, r20, nI_clamp, vp_in_nI, hT_sI, hR_sI, hT_sJ, hR_sJ, hT_sR, hI_sJ, hI_sR, hJ_sI, hJ_sR, hI_eq, hI_ne, hI_nk]; done)) | (focus (simp (disch := omega) only [m0, e20, e19, r0, r20, nI_clamp, vp_in_nI, hT_sI, hR_sI, hT_sJ, hR_sJ, hT_sR, hI_sJ, hI_sR, hJ_sI, hJ_sR, hI_eq, hI_ne, hI_nk]; first | assumption | exact okv3 (by assumption)))) | (focus (refine ⟨_, rfl, ?_⟩; (first | assumption | rfl | exact True.intro | exact Nat.le_of_ble_eq_true rfl | exact Or.inl rfl | exact Or.inr rfl | exact okv3 (by assumption) | decide | (focus (simp (disch := omega) only [m0, e20, e19, r0, r20, nI_clamp, vp_in_nI, hT_sI, hR_sI, hT_sJ, hR_sJ, hT_sR, hI_sJ, hI_sR, hJ_sI, hJ_sR, hI_eq, hI_ne, hI_nk]; done)) | (focus (simp (disch := omega) only [m0, e20, e19, r0, r20, nI_clamp, vp_in_nI, hT_sI, hR_sI, hT_sJ, hR_sJ, hT_sR, hI_sJ, hI_sR, hJ_sI, hJ_sR, hI_eq, hI_ne, hI_nk]; first | assumption | exact okv3 (by assumption)))))))))
      refine falls_ok ml ?_
      obtain ⟨r19, rT⟩ := falls_rd r20 ml
      generalize mFalls g = f at z r19 rT ⊢
      repeat (first | (refine rs ?_; conv => whnf) | unfold k_call | ((with_reducible refine And.intro ?_ ?_); (first | (first | assumption | rfl | exact True.intro | exact Nat.le_of_ble_eq_true rfl | exact Or.inl rfl | exact Or.inr rfl | exact okv3 (by assumption) | decide | (focus (simp (disch := omega) only [rT, nI_clamp, vp_in_nI, hT_sI, hR_sI, hT_sJ, hR_sJ, hT_sR, hI_sJ, hI_sR, hJ_sI, hJ_sR, hI_eq, hI_ne, hI_nk]; done)) | (focus (simp (disch := omega) only [rT, nI_clamp, vp_in_nI, hT_sI, hR_sI, hT_sJ, hR_sJ, hT_sR, hI_sJ, hI_sR, hJ_sI, hJ_sR, hI_eq, hI_ne, hI_nk]; first | assumption | exact okv3 (by assumption)))) | (focus (refine ⟨_, rfl, ?_⟩; (first | assumption | rfl | exact True.intro | exact Nat.le_of_ble_eq_true rfl | exact Or.inl rfl | exact Or.inr rfl | exact okv3 (by assumption) | decide | (focus (simp (disch := omega) only [rT, nI_clamp, vp_in_nI, hT_sI, hR_sI, hT_sJ, hR_sJ, hT_sR, hI_sJ, hI_sR, hJ_sI, hJ_sR, hI_eq, hI_ne, hI_nk]; done)) | (focus (simp (disch := omega) only [rT, nI_clamp, vp_in_nI, hT_sI, hR_sI, hT_sJ, hR_sJ, hT_sR, hI_sJ, hI_sR, hJ_sI, hJ_sR, hI_eq, hI_ne, hI_nk]; first | assumption | exact okv3 (by assumption)))))))))
      rw [r19]
      refine br_t rfl ?_
      repeat (first | (refine rs ?_; conv => whnf) | unfold k_call | ((with_reducible refine And.intro ?_ ?_); (first | (first | assumption | rfl | exact True.intro | exact Nat.le_of_ble_eq_true rfl | exact Or.inl rfl | exact Or.inr rfl | exact okv3 (by assumption) | decide | (focus (simp (disch := omega) only [rT, nI_clamp, vp_in_nI, hT_sI, hR_sI, hT_sJ, hR_sJ, hT_sR, hI_sJ, hI_sR, hJ_sI, hJ_sR, hI_eq, hI_ne, hI_nk]; done)) | (focus (simp (disch := omega) only [rT, nI_clamp, vp_in_nI, hT_sI, hR_sI, hT_sJ, hR_sJ, hT_sR, hI_sJ, hI_sR, hJ_sI, hJ_sR, hI_eq, hI_ne, hI_nk]; first | assumption | exact okv3 (by assumption)))) | (focus (refine ⟨_, rfl, ?_⟩; (first | assumption | rfl | exact True.intro | exact Nat.le_of_ble_eq_true rfl | exact Or.inl rfl | exact Or.inr rfl | exact okv3 (by assumption) | decide | (focus (simp (disch := omega) only [rT, nI_clamp, vp_in_nI, hT_sI, hR_sI, hT_sJ, hR_sJ, hT_sR, hI_sJ, hI_sR, hJ_sI, hJ_sR, hI_eq, hI_ne, hI_nk]; done)) | (focus (simp (disch := omega) only [rT, nI_clamp, vp_in_nI, hT_sI, hR_sI, hT_sJ, hR_sJ, hT_sR, hI_sJ, hI_sR, hJ_sI, hJ_sR, hI_eq, hI_ne, hI_nk]; first | assumption | exact okv3 (by assumption)))))))))
      exact z
    (refine go mX12_fails hX [19] 400 ?_; conv => whnf)
    repeat (first | (refine rs ?_; conv => whnf) | unfold k_call | ((with_reducible refine And.intro ?_ ?_); (first | (first | assumption | rfl | exact True.intro | exact Nat.le_of_ble_eq_true rfl | exact Or.inl rfl | exact Or.inr rfl | exact okv3 (by assumption) | decide | (focus (simp (disch := omega) only [m0, e20, nI_clamp, vp_in_nI, hT_sI, hR_sI, hT_sJ, hR_sJ, hT_sR, hI_sJ, hI_sR, hJ_sI, hJ_sR, hI_eq, hI_ne, hI_nk]; done)) | (focus (simp (disch := omega) only [m0, e20, nI_clamp, vp_in_nI, hT_sI, hR_sI, hT_sJ, hR_sJ, hT_sR, hI_sJ, hI_sR, hJ_sI, hJ_sR, hI_eq, hI_ne, hI_nk]; first | assumption | exact okv3 (by assumption)))) | (focus (refine ⟨_, rfl, ?_⟩; (first | assumption | rfl | exact True.intro | exact Nat.le_of_ble_eq_true rfl | exact Or.inl rfl | exact Or.inr rfl | exact okv3 (by assumption) | decide | (focus (simp (disch := omega) only [m0, e20, nI_clamp, vp_in_nI, hT_sI, hR_sI, hT_sJ, hR_sJ, hT_sR, hI_sJ, hI_sR, hJ_sI, hJ_sR, hI_eq, hI_ne, hI_nk]; done)) | (focus (simp (disch := omega) only [m0, e20, nI_clamp, vp_in_nI, hT_sI, hR_sI, hT_sJ, hR_sJ, hT_sR, hI_sJ, hI_sR, hJ_sI, hJ_sR, hI_eq, hI_ne, hI_nk]; first | assumption | exact okv3 (by assumption)))))))))
    rw [e20]
    refine br_f (by decide) ?_
    repeat (first | (refine rs ?_; conv => whnf) | unfold k_call | ((with_reducible refine And.intro ?_ ?_); (first | (first | assumption | rfl | exact True.intro | exact Nat.le_of_ble_eq_true rfl | exact Or.inl rfl | exact Or.inr rfl | exact okv3 (by assumption) | decide | (focus (simp (disch := omega) only [m0, e20, nI_clamp, vp_in_nI, hT_sI, hR_sI, hT_sJ, hR_sJ, hT_sR, hI_sJ, hI_sR, hJ_sI, hJ_sR, hI_eq, hI_ne, hI_nk]; done)) | (focus (simp (disch := omega) only [m0, e20, nI_clamp, vp_in_nI, hT_sI, hR_sI, hT_sJ, hR_sJ, hT_sR, hI_sJ, hI_sR, hJ_sI, hJ_sR, hI_eq, hI_ne, hI_nk]; first | assumption | exact okv3 (by assumption)))) | (focus (refine ⟨_, rfl, ?_⟩; (first | assumption | rfl | exact True.intro | exact Nat.le_of_ble_eq_true rfl | exact Or.inl rfl | exact Or.inr rfl | exact okv3 (by assumption) | decide | (focus (simp (disch := omega) only [m0, e20, nI_clamp, vp_in_nI, hT_sI, hR_sI, hT_sJ, hR_sJ, hT_sR, hI_sJ, hI_sR, hJ_sI, hJ_sR, hI_eq, hI_ne, hI_nk]; done)) | (focus (simp (disch := omega) only [m0, e20, nI_clamp, vp_in_nI, hT_sI, hR_sI, hT_sJ, hR_sJ, hT_sR, hI_sJ, hI_sR, hJ_sI, hJ_sR, hI_eq, hI_ne, hI_nk]; first | assumption | exact okv3 (by assumption)))))))))
    (try simp (disch := omega) only [m0, e20, nI_clamp, vp_in_nI, hT_sI, hR_sI, hT_sJ, hR_sJ, hT_sR, hI_sJ, hI_sR, hJ_sI, hJ_sR, hI_eq, hI_ne, hI_nk])
    exact step
  · have et : mTick b = sI b 361 20 (nI j - 1) := by
      unfold mTick
      rw [e20]
      exact if_neg (nI_ne0 (by omega) (by omega))
    obtain ⟨i, rfl⟩ : ∃ i, j = i + 2 := ⟨j - 2, by omega⟩
    have hF : ¬ Falls a := fun z => z.2 (by rw [j2, nI_pred (i + 1)]; exact nI_lt (a := 0) (by omega) (by omega))
    have z := k0 hF
    rw [et] at z
    have r20 : hI (sI b 361 20 (nI (i + 2) - 1)) 361 20 = nI (i + 1) := by rw [hI_eq]; exact nI_pred (i + 1)
    have ml : MLay (sI b 361 20 (nI (i + 2) - 1)) := R.ml
    have r0 := ml.1
    have r19 : hI (sI b 361 20 (nI (i + 2) - 1)) 361 19 = 1 := by rw [hI_nk (by omega)]; exact e19
    have step : X 19 [.ref 361] [] (sI b 361 20 (nI (i + 2) - 1)) 0 0 := by
      generalize sI b 361 20 (nI (i + 2) - 1) = g at z r20 ml r0 r19 ⊢
      (refine go mX12_fails hX [] 400 ?_; conv => whnf)
      repeat (first | (refine rs ?_; conv => whnf) | unfold k_call | ((with_reducible refine And.intro ?_ ?_); (first | (first | assumption | rfl | exact True.intro | exact Nat.le_of_ble_eq_true rfl | exact Or.inl rfl | exact Or.inr rfl | exact okv3 (by assumption) | decide | (focus (simp (disch := omega) only [r0, nI_clamp, vp_in_nI, hT_sI, hR_sI, hT_sJ, hR_sJ, hT_sR, hI_sJ, hI_sR, hJ_sI, hJ_sR, hI_eq, hI_ne, hI_nk]; done)) | (focus (simp (disch := omega) only [r0, nI_clamp, vp_in_nI, hT_sI, hR_sI, hT_sJ, hR_sJ, hT_sR, hI_sJ, hI_sR, hJ_sI, hJ_sR, hI_eq, hI_ne, hI_nk]; first | assumption | exact okv3 (by assumption)))) | (focus (refine ⟨_, rfl, ?_⟩; (first | assumption | rfl | exact True.intro | exact Nat.le_of_ble_eq_true rfl | exact Or.inl rfl | exact Or.inr rfl | exact okv3 (by assumption) | decide | (focus (simp (disch := omega) only [r0, nI_clamp, vp_in_nI, hT_sI, hR_sI, hT_sJ, hR_sJ, hT_sR, hI_sJ, hI_sR, hJ_sI, hJ_sR, hI_eq, hI_ne, hI_nk]; done)) | (focus (simp (disch := omega) only [r0, nI_clamp, vp_in_nI, hT_sI, hR_sI, hT_sJ, hR_sJ, hT_sR, hI_sJ, hI_sR, hJ_sI, hJ_sR, hI_eq, hI_ne, hI_nk]; first | assumption | exact okv3 (by assumption)))))))))
      rw [r20]
      refine br_f (nI_ne0 (by omega) (by omega)) ?_
      repeat (first | (refine rs ?_; conv => whnf) | unfold k_call | ((with_reducible refine And.intro ?_ ?_); (first | (first | assumption | rfl | exact True.intro | exact Nat.le_of_ble_eq_true rfl | exact Or.inl rfl | exact Or.inr rfl | exact okv3 (by assumption) | decide | (focus (simp (disch := omega) only [r0, nI_clamp, vp_in_nI, hT_sI, hR_sI, hT_sJ, hR_sJ, hT_sR, hI_sJ, hI_sR, hJ_sI, hJ_sR, hI_eq, hI_ne, hI_nk]; done)) | (focus (simp (disch := omega) only [r0, nI_clamp, vp_in_nI, hT_sI, hR_sI, hT_sJ, hR_sJ, hT_sR, hI_sJ, hI_sR, hJ_sI, hJ_sR, hI_eq, hI_ne, hI_nk]; first | assumption | exact okv3 (by assumption)))) | (focus (refine ⟨_, rfl, ?_⟩; (first | assumption | rfl | exact True.intro | exact Nat.le_of_ble_eq_true rfl | exact Or.inl rfl | exact Or.inr rfl | exact okv3 (by assumption) | decide | (focus (simp (disch := omega) only [r0, nI_clamp, vp_in_nI, hT_sI, hR_sI, hT_sJ, hR_sJ, hT_sR, hI_sJ, hI_sR, hJ_sI, hJ_sR, hI_eq, hI_ne, hI_nk]; done)) | (focus (simp (disch := omega) only [r0, nI_clamp, vp_in_nI, hT_sI, hR_sI, hT_sJ, hR_sJ, hT_sR, hI_sJ, hI_sR, hJ_sI, hJ_sR, hI_eq, hI_ne, hI_nk]; first | assumption | exact okv3 (by assumption)))))))))
      rw [r19]
      refine br_f (by decide) ?_
      repeat (first | (refine rs ?_; conv => whnf) | unfold k_call | ((with_reducible refine And.intro ?_ ?_); (first | (first | assumption | rfl | exact True.intro | exact Nat.le_of_ble_eq_true rfl | exact Or.inl rfl | exact Or.inr rfl | exact okv3 (by assumption) | decide | (focus (simp (disch := omega) only [r0, nI_clamp, vp_in_nI, hT_sI, hR_sI, hT_sJ, hR_sJ, hT_sR, hI_sJ, hI_sR, hJ_sI, hJ_sR, hI_eq, hI_ne, hI_nk]; done)) | (focus (simp (disch := omega) only [r0, nI_clamp, vp_in_nI, hT_sI, hR_sI, hT_sJ, hR_sJ, hT_sR, hI_sJ, hI_sR, hJ_sI, hJ_sR, hI_eq, hI_ne, hI_nk]; first | assumption | exact okv3 (by assumption)))) | (focus (refine ⟨_, rfl, ?_⟩; (first | assumption | rfl | exact True.intro | exact Nat.le_of_ble_eq_true rfl | exact Or.inl rfl | exact Or.inr rfl | exact okv3 (by assumption) | decide | (focus (simp (disch := omega) only [r0, nI_clamp, vp_in_nI, hT_sI, hR_sI, hT_sJ, hR_sJ, hT_sR, hI_sJ, hI_sR, hJ_sI, hJ_sR, hI_eq, hI_ne, hI_nk]; done)) | (focus (simp (disch := omega) only [r0, nI_clamp, vp_in_nI, hT_sI, hR_sI, hT_sJ, hR_sJ, hT_sR, hI_sJ, hI_sR, hJ_sI, hJ_sR, hI_eq, hI_ne, hI_nk]; first | assumption | exact okv3 (by assumption)))))))))
      exact z
    (refine go mX12_fails hX [19] 400 ?_; conv => whnf)
    repeat (first | (refine rs ?_; conv => whnf) | unfold k_call | ((with_reducible refine And.intro ?_ ?_); (first | (first | assumption | rfl | exact True.intro | exact Nat.le_of_ble_eq_true rfl | exact Or.inl rfl | exact Or.inr rfl | exact okv3 (by assumption) | decide | (focus (simp (disch := omega) only [m0, e20, nI_clamp, vp_in_nI, hT_sI, hR_sI, hT_sJ, hR_sJ, hT_sR, hI_sJ, hI_sR, hJ_sI, hJ_sR, hI_eq, hI_ne, hI_nk]; done)) | (focus (simp (disch := omega) only [m0, e20, nI_clamp, vp_in_nI, hT_sI, hR_sI, hT_sJ, hR_sJ, hT_sR, hI_sJ, hI_sR, hJ_sI, hJ_sR, hI_eq, hI_ne, hI_nk]; first | assumption | exact okv3 (by assumption)))) | (focus (refine ⟨_, rfl, ?_⟩; (first | assumption | rfl | exact True.intro | exact Nat.le_of_ble_eq_true rfl | exact Or.inl rfl | exact Or.inr rfl | exact okv3 (by assumption) | decide | (focus (simp (disch := omega) only [m0, e20, nI_clamp, vp_in_nI, hT_sI, hR_sI, hT_sJ, hR_sJ, hT_sR, hI_sJ, hI_sR, hJ_sI, hJ_sR, hI_eq, hI_ne, hI_nk]; done)) | (focus (simp (disch := omega) only [m0, e20, nI_clamp, vp_in_nI, hT_sI, hR_sI, hT_sJ, hR_sJ, hT_sR, hI_sJ, hI_sR, hJ_sI, hJ_sR, hI_eq, hI_ne, hI_nk]; first | assumption | exact okv3 (by assumption)))))))))
    rw [e20]
    refine br_f (nI_ne0 (by omega) (by omega)) ?_
    repeat (first | (refine rs ?_; conv => whnf) | unfold k_call | ((with_reducible refine And.intro ?_ ?_); (first | (first | assumption | rfl | exact True.intro | exact Nat.le_of_ble_eq_true rfl | exact Or.inl rfl | exact Or.inr rfl | exact okv3 (by assumption) | decide | (focus (simp (disch := omega) only [m0, e20, nI_clamp, vp_in_nI, hT_sI, hR_sI, hT_sJ, hR_sJ, hT_sR, hI_sJ, hI_sR, hJ_sI, hJ_sR, hI_eq, hI_ne, hI_nk]; done)) | (focus (simp (disch := omega) only [m0, e20, nI_clamp, vp_in_nI, hT_sI, hR_sI, hT_sJ, hR_sJ, hT_sR, hI_sJ, hI_sR, hJ_sI, hJ_sR, hI_eq, hI_ne, hI_nk]; first | assumption | exact okv3 (by assumption)))) | (focus (refine ⟨_, rfl, ?_⟩; (first | assumption | rfl | exact True.intro | exact Nat.le_of_ble_eq_true rfl | exact Or.inl rfl | exact Or.inr rfl | exact okv3 (by assumption) | decide | (focus (simp (disch := omega) only [m0, e20, nI_clamp, vp_in_nI, hT_sI, hR_sI, hT_sJ, hR_sJ, hT_sR, hI_sJ, hI_sR, hJ_sI, hJ_sR, hI_eq, hI_ne, hI_nk]; done)) | (focus (simp (disch := omega) only [m0, e20, nI_clamp, vp_in_nI, hT_sI, hR_sI, hT_sJ, hR_sJ, hT_sR, hI_sJ, hI_sR, hJ_sI, hJ_sR, hI_eq, hI_ne, hI_nk]; first | assumption | exact okv3 (by assumption)))))))))
    (try simp (disch := omega) only [m0, e20, nI_clamp, vp_in_nI, hT_sI, hR_sI, hT_sJ, hR_sJ, hT_sR, hI_sJ, hI_sR, hJ_sI, hJ_sR, hI_eq, hI_ne, hI_nk])
    exact step
/-- a page flushed -/
theorem Plain_sp {n i : Nat} {a b : CH} (R : RR n a b) (hi : i < 16) (h : Plain a 313 i) : ∀ j, j < 16 → hI a (313 + 2 + j) 0 = nI (spN a i) → ¬ hI a (313 + 2 + j) 3 = 0 ∧ hI a (313 + 2 + j) 9 = 0 := fun j hj e => by
  obtain ⟨c0, c⟩ := pl_pg R hi h.1
  obtain ⟨w1, w2⟩ := fr_sp R hi c0
  have : j = i := R.fm.2.2.1 j i hj hi (e.trans w1.symm) (by rw [e]; exact nI_n1 w2)
  rw [this]
  exact h
theorem tick_oth {a : CH} {x k : Nat} (h : ¬ (x = 300 ∧ k = 15)) : hI (cTick a) x k = hI a x k := hI_tick h
theorem flu_eq {h : CH} {t f sp : Nat} (hf : 315 ≤ f) (hf2 : f < 331) : cFlu h t f sp = sI (cForget (cPut (cRdP h t sp) (302 + 4 * (sp / 64)) (sp % 64) (hI h f 1)) 331 sp) f 3 0 := by
  show cForget (sI (cPut (cRdP h t sp) (302 + 4 * (sp / 64)) (sp % 64) (hI h f 1)) f 3 0) 331 sp = _
  generalize cPut (cRdP h t sp) (302 + 4 * (sp / 64)) (sp % 64) (hI h f 1) = g
  unfold cForget
  rw [hI_ne (show ¬ 331 + 1 = f by omega), hI_ne (show ¬ 331 = f by omega)]
  split
  · rfl
  · rw [sI_comm (a := f) (k := 3) (b := 331 + 1) (j := sp) (by omega), sI_comm (a := f) (k := 3) (b := 331) (j := 2) (by omega)]
def mFlu (b : CH) (p t s : Nat) : CH := sJ (mPut (mCosts b t s) s (hI b p 1)) p 3 (-1)
theorem RR_flu {n i : Nat} {a b : CH} (R : RR n a b) (hi : i < 16) (h : Plain a 313 i) : RR n (cFlu a (tN a) (313 + 2 + i) (spN a i)) (mFlu b (hR b 368 i) (tN a) (spN a i)) := by
  obtain ⟨c0, c⟩ := pl_pg R hi h.1
  obtain ⟨w1, w2⟩ := fr_sp R hi c0
  obtain ⟨t, ht, P⟩ := pgR R hi c
  have R1 := RR_costs R w2
  have row : ∀ k, hI (cRdP a (tN a) (spN a i)) (313 + 2 + i) k = hI a (313 + 2 + i) k := fun k => hI_rdP (by omega)
  have rowj : ∀ j k, j < 16 → hI (cRdP a (tN a) (spN a i)) (313 + 2 + j) k = hI a (313 + 2 + j) k := fun j k hj => hI_rdP (by omega)
  have R2 := RR_put (v := hI a (313 + 2 + i) 1) R1 w2 (fun j hj e => by
    rw [rowj j 0 hj] at e
    rw [rowj j 3 hj, rowj j 9 hj]
    exact Plain_sp R hi h j hj e)
  have er : hR (mPut (mCosts b (tN a) (spN a i)) (spN a i) (hI a (313 + 2 + i) 1)) 368 i = hR b 368 i := by
    rw [mPut_rt.2.1]
    unfold mCosts
    split <;> rfl
  have eg : ∀ k, hI (cForget (cPut (cRdP a (tN a) (spN a i)) (302 + 4 * (spN a i / 64)) (spN a i % 64) (hI a (313 + 2 + i) 1)) 331 (spN a i)) (313 + 2 + i) k = hI a (313 + 2 + i) k := fun k => by
    rw [fgt_oth (by omega) (by omega)]
    unfold cPut
    rw [hI_ne (by omega), hI_ne (by omega), hI_ne (by omega), row]
  have eS : cSum (cForget (cPut (cRdP a (tN a) (spN a i)) (302 + 4 * (spN a i / 64)) (spN a i % 64) (hI a (313 + 2 + i) 1)) 331 (spN a i)) (spN a i) = hI a (313 + 2 + i) 1 := by
    unfold cSum
    rw [fgt_oth (by omega) (by omega)]
    have z := (put_val (a := cRdP a (tN a) (spN a i)) (v := hI a (313 + 2 + i) 1) w2 w2).2
    rw [if_pos rfl] at z
    exact z
  have eH := fgt_has (h := cPut (cRdP a (tN a) (spN a i)) (302 + 4 * (spN a i / 64)) (spN a i % 64) (hI a (313 + 2 + i) 1)) (s := spN a i)
  rw [flu_eq (by omega) (by omega)]
  unfold mFlu
  rw [P.vl]
  generalize cForget (cPut (cRdP a (tN a) (spN a i)) (302 + 4 * (spN a i / 64)) (spN a i % 64) (hI a (313 + 2 + i) 1)) 331 (spN a i) = A at R2 eg eS eH ⊢
  generalize mPut (mCosts b (tN a) (spN a i)) (spN a i) (hI a (313 + 2 + i) 1) = B at R2 er ⊢
  have es : spN A i = spN a i := by unfold spN; rw [eg]
  rw [← er]
  exact RR_clean R2 hi (by rw [eg]; exact h.1) (by rw [eg]; exact h.2) (by rw [es, eS, eg]) (by rw [es]; exact eH)
