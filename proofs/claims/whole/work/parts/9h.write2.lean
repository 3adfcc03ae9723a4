/-! A WRITE, II -/
def WkI (a : CH) : Prop := hI a 334 2 = nI (cnt (wkP a 313) 16) ∧ cnt (wkP a 313) 16 ≤ 6 ∧ (hI a 334 0 = 0 → ∀ i, i < 16 → hI a (313 + 2 + i) 9 = 0)
theorem wk_n {n : Nat} {a b : CH} (R : RR n a b) : cnt (wkP a 313) (nN a) = cnt (wkP a 313) 16 := (cnt16 (p := wkP a 313) R.ln.1 (fun i h1 h2 => decide_eq_false (fun z => z (fr_hol R h2 (R.fm.1 i h1 h2)).2))).symm
theorem cnt_zero {p : Nat → Bool} : ∀ {n : Nat}, (∀ i, i < n → p i = false) → cnt p n = 0
  | 0, _ => rfl
  | n + 1, h => by
    rw [cnt_f (h n (by omega))]
    exact cnt_zero (fun i hi => h i (by omega))
def Lwr : List (String × Int32) := [("java/lang/IndexOutOfBoundsException", 1), ("java/lang/IllegalArgumentException", 2), ("java/lang/UnsupportedOperationException", 3), ("java/lang/IllegalStateException", 4)]
theorem use_5 {g : CH} {i : Nat} (hi : i < 16) : hI (cUse g 313 i) (313 + 2 + i) 5 = hI (cUse g 313 i) 313 3 := by
  unfold cUse
  rw [hI_nk (by omega), hI_eq, hI_ne (by omega), hI_ne (by omega), hI_eq]
theorem use_pow {g : CH} {i x k : Nat} (h : x < 313 ∨ 331 ≤ x) (hi : i < 16) : hI (cUse g 313 i) x k = hI g x k := by
  unfold cUse
  rw [hI_ne (by omega), hI_ne (by omega), hI_ne (by omega)]
theorem ah_low {g : CH} {i x k : Nat} (h : x < 315 ∨ 331 ≤ x) (h2 : ¬ x = 358) (hi : i < 16) : hI (cAh g i) x k = hI g x k := by
  unfold cAh
  split
  · rfl
  · rw [hI_ne h2, hI_ne (by omega)]
theorem write_hit {n f bl sp i : Nat} {a c : CH} {X : XT} {Q : QT} {v u w : Int32} {z : Value} (hX : Clo kX12_write X Q) (R : RR n a c) (hn : n + 1 < 5000) (h0 : hI c 361 0 = 0) (hp : hI a 300 14 = 1) (hf : f < fcN a) (hb : bl < 16) (hi : i < 16) (hq : hI a (313 + 2 + i) 0 = nI sp) (hs : sp < 128) (hv : ¬ v = -1) (k : ∀ b' r, RR (n + 1) (cWr2 (cCount a f bl (some i)) sp v (some i)).1 b' → Ans (cWr2 (cCount a f bl (some i)) sp v (some i)).2 Lwr (hI b' 361 0) r → Q (.inl [.int r]) b') : X 165 [.ref 361, .int (nI f), .int (nI bl), .int v, .int (nI sp), .int (nI i), .int 1, .int u, .int w, z, .null] [] c 0 0 := by
  have h8 := fc_le R
  have m0 := R.ml.1
  unfold cWr2 cWr3 at k
  dsimp only at k
  rw [count_some] at k
  (refine go mX12_write hX [216] 400 ?_; conv => whnf)
  repeat (first | (refine rs ?_; conv => whnf) | unfold k_call | ((with_reducible refine And.intro ?_ ?_); (first | (first | assumption | rfl | exact True.intro | exact Nat.le_of_ble_eq_true rfl | exact Or.inl rfl | exact Or.inr rfl | exact okv3 (by assumption) | decide | (focus (simp (disch := omega) only [m0, nI_clamp, vp_in_nI, hT_sI, hR_sI, hT_sJ, hR_sJ, hT_sR, hI_sJ, hI_sR, hJ_sI, hJ_sR, hI_eq, hI_ne, hI_nk]; done)) | (focus (simp (disch := omega) only [m0, nI_clamp, vp_in_nI, hT_sI, hR_sI, hT_sJ, hR_sJ, hT_sR, hI_sJ, hI_sR, hJ_sI, hJ_sR, hI_eq, hI_ne, hI_nk]; first | assumption | exact okv3 (by assumption)))) | (focus (refine ⟨_, rfl, ?_⟩; (first | assumption | rfl | exact True.intro | exact Nat.le_of_ble_eq_true rfl | exact Or.inl rfl | exact Or.inr rfl | exact okv3 (by assumption) | decide | (focus (simp (disch := omega) only [m0, nI_clamp, vp_in_nI, hT_sI, hR_sI, hT_sJ, hR_sJ, hT_sR, hI_sJ, hI_sR, hJ_sI, hJ_sR, hI_eq, hI_ne, hI_nk]; done)) | (focus (simp (disch := omega) only [m0, nI_clamp, vp_in_nI, hT_sI, hR_sI, hT_sJ, hR_sJ, hT_sR, hI_sJ, hI_sR, hJ_sI, hJ_sR, hI_eq, hI_ne, hI_nk]; first | assumption | exact okv3 (by assumption)))))))))
  refine counts_ok R (by omega) hb (Or.inr rfl) (fun b1 R1 T1 => ?_)
  have er : ∀ x k, (x < 335 ∨ x = 334) → hI (cCnt a (nI (f * 16 + bl)) 1) x k = hI a x k := fun x k h => cnt_oth (by omega) (by omega) (by omega)
  generalize cCnt a (nI (f * 16 + bl)) 1 = A at k R1 er
  have hq2 : ¬ hI A (313 + 2 + i) 0 = -1 := by rw [er _ _ (by omega), hq]; exact nI_n1 hs
  have hq3 : ¬ hR b1 368 i = 0 := fun z => hq2 ((nul_iff R1 hi).mp z)
  have T2 : hI b1 361 0 = 0 := Eq.trans (show hI b1 361 0 = hI c 361 0 from T1) h0
  clear m0
  have r0 := R1.ml.1
  have r7 : hR b1 361 7 = 368 := R1.ml.2.2.2.2.2.2.2.1
  have r18 : hT b1 368 = (107, 16) := R1.ml.2.2.2.2.2.2.2.2.2.2.2.2.2.2.2.2.2.2.1
  repeat (first | (refine rs ?_; conv => whnf) | unfold k_call | ((with_reducible refine And.intro ?_ ?_); (first | (first | assumption | rfl | exact True.intro | exact Nat.le_of_ble_eq_true rfl | exact Or.inl rfl | exact Or.inr rfl | exact okv3 (by assumption) | decide | (focus (simp (disch := omega) only [r0, r7, r18, nI_clamp, vp_in_nI, hT_sI, hR_sI, hT_sJ, hR_sJ, hT_sR, hI_sJ, hI_sR, hJ_sI, hJ_sR, hI_eq, hI_ne, hI_nk]; done)) | (focus (simp (disch := omega) only [r0, r7, r18, nI_clamp, vp_in_nI, hT_sI, hR_sI, hT_sJ, hR_sJ, hT_sR, hI_sJ, hI_sR, hJ_sI, hJ_sR, hI_eq, hI_ne, hI_nk]; first | assumption | exact okv3 (by assumption)))) | (focus (refine ⟨_, rfl, ?_⟩; (first | assumption | rfl | exact True.intro | exact Nat.le_of_ble_eq_true rfl | exact Or.inl rfl | exact Or.inr rfl | exact okv3 (by assumption) | decide | (focus (simp (disch := omega) only [r0, r7, r18, nI_clamp, vp_in_nI, hT_sI, hR_sI, hT_sJ, hR_sJ, hT_sR, hI_sJ, hI_sR, hJ_sI, hJ_sR, hI_eq, hI_ne, hI_nk]; done)) | (focus (simp (disch := omega) only [r0, r7, r18, nI_clamp, vp_in_nI, hT_sI, hR_sI, hT_sJ, hR_sJ, hT_sR, hI_sJ, hI_sR, hJ_sI, hJ_sR, hI_eq, hI_ne, hI_nk]; first | assumption | exact okv3 (by assumption)))))))))
  refine br_f (show ¬ (1 : Int32) = 0 by decide) ?_
  repeat (first | (refine rs ?_; conv => whnf) | unfold k_call | ((with_reducible refine And.intro ?_ ?_); (first | (first | assumption | rfl | exact True.intro | exact Nat.le_of_ble_eq_true rfl | exact Or.inl rfl | exact Or.inr rfl | exact okv3 (by assumption) | decide | (focus (simp (disch := omega) only [r0, r7, r18, nI_clamp, vp_in_nI, hT_sI, hR_sI, hT_sJ, hR_sJ, hT_sR, hI_sJ, hI_sR, hJ_sI, hJ_sR, hI_eq, hI_ne, hI_nk]; done)) | (focus (simp (disch := omega) only [r0, r7, r18, nI_clamp, vp_in_nI, hT_sI, hR_sI, hT_sJ, hR_sJ, hT_sR, hI_sJ, hI_sR, hJ_sI, hJ_sR, hI_eq, hI_ne, hI_nk]; first | assumption | exact okv3 (by assumption)))) | (focus (refine ⟨_, rfl, ?_⟩; (first | assumption | rfl | exact True.intro | exact Nat.le_of_ble_eq_true rfl | exact Or.inl rfl | exact Or.inr rfl | exact okv3 (by assumption) | decide | (focus (simp (disch := omega) only [r0, r7, r18, nI_clamp, vp_in_nI, hT_sI, hR_sI, hT_sJ, hR_sJ, hT_sR, hI_sJ, hI_sR, hJ_sI, hJ_sR, hI_eq, hI_ne, hI_nk]; done)) | (focus (simp (disch := omega) only [r0, r7, r18, nI_clamp, vp_in_nI, hT_sI, hR_sI, hT_sJ, hR_sJ, hT_sR, hI_sJ, hI_sR, hJ_sI, hJ_sR, hI_eq, hI_ne, hI_nk]; first | assumption | exact okv3 (by assumption)))))))))
  (try simp (disch := omega) only [r0, r7, r18, nI_clamp, vp_in_nI, hT_sI, hR_sI, hT_sJ, hR_sJ, hT_sR, hI_sJ, hI_sR, hJ_sI, hJ_sR, hI_eq, hI_ne, hI_nk])
  repeat (first | (refine rs ?_; conv => whnf) | unfold k_call | ((with_reducible refine And.intro ?_ ?_); (first | (first | assumption | rfl | exact True.intro | exact Nat.le_of_ble_eq_true rfl | exact Or.inl rfl | exact Or.inr rfl | exact okv3 (by assumption) | decide | (focus (simp (disch := omega) only [r0, r7, r18, nI_clamp, vp_in_nI, hT_sI, hR_sI, hT_sJ, hR_sJ, hT_sR, hI_sJ, hI_sR, hJ_sI, hJ_sR, hI_eq, hI_ne, hI_nk]; done)) | (focus (simp (disch := omega) only [r0, r7, r18, nI_clamp, vp_in_nI, hT_sI, hR_sI, hT_sJ, hR_sJ, hT_sR, hI_sJ, hI_sR, hJ_sI, hJ_sR, hI_eq, hI_ne, hI_nk]; first | assumption | exact okv3 (by assumption)))) | (focus (refine ⟨_, rfl, ?_⟩; (first | assumption | rfl | exact True.intro | exact Nat.le_of_ble_eq_true rfl | exact Or.inl rfl | exact Or.inr rfl | exact okv3 (by assumption) | decide | (focus (simp (disch := omega) only [r0, r7, r18, nI_clamp, vp_in_nI, hT_sI, hR_sI, hT_sJ, hR_sJ, hT_sR, hI_sJ, hI_sR, hJ_sI, hJ_sR, hI_eq, hI_ne, hI_nk]; done)) | (focus (simp (disch := omega) only [r0, r7, r18, nI_clamp, vp_in_nI, hT_sI, hR_sI, hT_sJ, hR_sJ, hT_sR, hI_sJ, hI_sR, hJ_sI, hJ_sR, hI_eq, hI_ne, hI_nk]; first | assumption | exact okv3 (by assumption)))))))))
  (try simp (disch := omega) only [r0, r7, r18, nI_clamp, vp_in_nI, hT_sI, hR_sI, hT_sJ, hR_sJ, hT_sR, hI_sJ, hI_sR, hJ_sI, hJ_sR, hI_eq, hI_ne, hI_nk])
  refine uses_ok R1 hi hq3 ?_
  have R3 := RR_uses R1 hn hi hq3
  have p3 := pgT R1 hi hq3
  have er3 : hR (mUses b1 (hR b1 368 i)) = hR b1 := rfl
  have et3 : hT (mUses b1 (hR b1 368 i)) = hT b1 := rfl
  have T3 : hI (mUses b1 (hR b1 368 i)) 361 0 = 0 := by
    unfold mUses mUse
    rw [hI_ne (by omega), hI_nk (by omega), hI_ne (by omega)]
    exact T2
  have R4 := RR_chg (v := v) R3 hi (by rw [er3]; exact hq3) (use_5 hi) hv
  rw [er3] at R4
  repeat (first | (refine rs ?_; conv => whnf) | unfold k_call | ((with_reducible refine And.intro ?_ ?_); (first | (first | assumption | rfl | exact True.intro | exact Nat.le_of_ble_eq_true rfl | exact Or.inl rfl | exact Or.inr rfl | exact okv3 (by assumption) | decide | (focus (simp (disch := omega) only [r0, r7, r18, nI_clamp, vp_in_nI, hT_sI, hR_sI, hT_sJ, hR_sJ, hT_sR, hI_sJ, hI_sR, hJ_sI, hJ_sR, hI_eq, hI_ne, hI_nk]; done)) | (focus (simp (disch := omega) only [r0, r7, r18, nI_clamp, vp_in_nI, hT_sI, hR_sI, hT_sJ, hR_sJ, hT_sR, hI_sJ, hI_sR, hJ_sI, hJ_sR, hI_eq, hI_ne, hI_nk]; first | assumption | exact okv3 (by assumption)))) | (focus (refine ⟨_, rfl, ?_⟩; (first | assumption | rfl | exact True.intro | exact Nat.le_of_ble_eq_true rfl | exact Or.inl rfl | exact Or.inr rfl | exact okv3 (by assumption) | decide | (focus (simp (disch := omega) only [r0, r7, r18, nI_clamp, vp_in_nI, hT_sI, hR_sI, hT_sJ, hR_sJ, hT_sR, hI_sJ, hI_sR, hJ_sI, hJ_sR, hI_eq, hI_ne, hI_nk]; done)) | (focus (simp (disch := omega) only [r0, r7, r18, nI_clamp, vp_in_nI, hT_sI, hR_sI, hT_sJ, hR_sJ, hT_sR, hI_sJ, hI_sR, hJ_sI, hJ_sR, hI_eq, hI_ne, hI_nk]; first | assumption | exact okv3 (by assumption)))))))))
  refine chg_walk (p := hR b1 368 i) hX (by rw [et3]; exact r0) (by rw [er3]; exact r7) (by rw [et3]; exact r18) hi (by rw [er3]) (by rw [et3]; exact p3.1) p3.2.1 (by omega) (by omega) 0 (Or.inr ⟨by decide, rfl⟩) ?_
  have pow : hI (cChange (cUse (cAh A i) 313 i) i v 0) 300 14 = 1 := by rw [chg_oth (by omega) (by omega), use_pow (by omega) hi, ah_low (by omega) (by omega) hi, er _ _ (by omega)]; exact hp
  have T4 : hI (mChange (mUses b1 (hR b1 368 i)) (hR b1 368 i) v 0) 361 0 = 0 := by rw [mChg_rt.2.2.2.1 _ _ (by omega)]; exact T3
  have h16 := R4.ln.1
  have hle := cnt_le (dyP (cChange (cUse (cAh A i) 313 i) i v 0) 313 0) (nN (cChange (cUse (cAh A i) 313 i) i v 0))
  exact wait_loop hX 16 0 _ _ _ _ R4 pow (by omega) (by omega) (by omega) (fun b' r R5 T5 hr => k b' r R5 ⟨Eq.trans T5 T4, by rw [hr]⟩)
theorem write_miss {n f bl sp : Nat} {a c : CH} {X : XT} {Q : QT} {v u w : Int32} {z : Value} (hX : Clo kX12_write X Q) (R : RR n a c) (hn : n + 1 < 5000) (h0 : hI c 361 0 = 0) (hp : hI a 300 14 = 1) (hf : f < fcN a) (hb : bl < 16) (hs : sp < 128) (hno : ∀ j, j < 16 → ¬ hI a (313 + 2 + j) 0 = nI sp) (hr : HasRoom a) (hv : ¬ v = -1) (k : ∀ b' r, RR (n + 1) (cWr2 (cCount a f bl none) sp v none).1 b' → Ans (cWr2 (cCount a f bl none) sp v none).2 Lwr (hI b' 361 0) r → Q (.inl [.int r]) b') : X 165 [.ref 361, .int (nI f), .int (nI bl), .int v, .int (nI sp), .int (-1), .int 0, .int u, .int w, z, .null] [] c 0 0 := by
  have h8 := fc_le R
  have h16 := R.ln.1
  have m0 := R.ml.1
  unfold cWr2 cWr3 at k
  dsimp only at k
  rw [count_none] at k
  (refine go mX12_write hX [216] 400 ?_; conv => whnf)
  repeat (first | (refine rs ?_; conv => whnf) | unfold k_call | ((with_reducible refine And.intro ?_ ?_); (first | (first | assumption | rfl | exact True.intro | exact Nat.le_of_ble_eq_true rfl | exact Or.inl rfl | exact Or.inr rfl | exact okv3 (by assumption) | decide | (focus (simp (disch := omega) only [m0, nI_clamp, vp_in_nI, hT_sI, hR_sI, hT_sJ, hR_sJ, hT_sR, hI_sJ, hI_sR, hJ_sI, hJ_sR, hI_eq, hI_ne, hI_nk]; done)) | (focus (simp (disch := omega) only [m0, nI_clamp, vp_in_nI, hT_sI, hR_sI, hT_sJ, hR_sJ, hT_sR, hI_sJ, hI_sR, hJ_sI, hJ_sR, hI_eq, hI_ne, hI_nk]; first | assumption | exact okv3 (by assumption)))) | (focus (refine ⟨_, rfl, ?_⟩; (first | assumption | rfl | exact True.intro | exact Nat.le_of_ble_eq_true rfl | exact Or.inl rfl | exact Or.inr rfl | exact okv3 (by assumption) | decide | (focus (simp (disch := omega) only [m0, nI_clamp, vp_in_nI, hT_sI, hR_sI, hT_sJ, hR_sJ, hT_sR, hI_sJ, hI_sR, hJ_sI, hJ_sR, hI_eq, hI_ne, hI_nk]; done)) | (focus (simp (disch := omega) only [m0, nI_clamp, vp_in_nI, hT_sI, hR_sI, hT_sJ, hR_sJ, hT_sR, hI_sJ, hI_sR, hJ_sI, hJ_sR, hI_eq, hI_ne, hI_nk]; first | assumption | exact okv3 (by assumption)))))))))
  refine counts_ok R (by omega) hb (Or.inl rfl) (fun b1 R1 T1 => ?_)
  have er : ∀ x k, (x < 335 ∨ x = 334) → hI (cCnt a (nI (f * 16 + bl)) 0) x k = hI a x k := fun x k h => cnt_oth (by omega) (by omega) (by omega)
  generalize cCnt a (nI (f * 16 + bl)) 0 = A at k R1 er
  have T2 : hI b1 361 0 = 0 := Eq.trans (show hI b1 361 0 = hI c 361 0 from T1) h0
  have hp2 : hI A 300 14 = 1 := by rw [er _ _ (by omega)]; exact hp
  have hr2 : HasRoom A := HasRoom_cg (fun x k q => er x k (by omega)) h16 hr
  have hno2 : ∀ j, j < 16 → ¬ hI A (313 + 2 + j) 0 = nI sp := fun j hj => by rw [er _ _ (by omega)]; exact hno j hj
  clear m0
  have r0 := R1.ml.1
  repeat (first | (refine rs ?_; conv => whnf) | unfold k_call | ((with_reducible refine And.intro ?_ ?_); (first | (first | assumption | rfl | exact True.intro | exact Nat.le_of_ble_eq_true rfl | exact Or.inl rfl | exact Or.inr rfl | exact okv3 (by assumption) | decide | (focus (simp (disch := omega) only [r0, nI_clamp, vp_in_nI, hT_sI, hR_sI, hT_sJ, hR_sJ, hT_sR, hI_sJ, hI_sR, hJ_sI, hJ_sR, hI_eq, hI_ne, hI_nk]; done)) | (focus (simp (disch := omega) only [r0, nI_clamp, vp_in_nI, hT_sI, hR_sI, hT_sJ, hR_sJ, hT_sR, hI_sJ, hI_sR, hJ_sI, hJ_sR, hI_eq, hI_ne, hI_nk]; first | assumption | exact okv3 (by assumption)))) | (focus (refine ⟨_, rfl, ?_⟩; (first | assumption | rfl | exact True.intro | exact Nat.le_of_ble_eq_true rfl | exact Or.inl rfl | exact Or.inr rfl | exact okv3 (by assumption) | decide | (focus (simp (disch := omega) only [r0, nI_clamp, vp_in_nI, hT_sI, hR_sI, hT_sJ, hR_sJ, hT_sR, hI_sJ, hI_sR, hJ_sI, hJ_sR, hI_eq, hI_ne, hI_nk]; done)) | (focus (simp (disch := omega) only [r0, nI_clamp, vp_in_nI, hT_sI, hR_sI, hT_sJ, hR_sJ, hT_sR, hI_sJ, hI_sR, hJ_sI, hJ_sR, hI_eq, hI_ne, hI_nk]; first | assumption | exact okv3 (by assumption)))))))))
  refine br_t (show (0 : Int32) = 0 from rfl) ?_
  repeat (first | (refine rs ?_; conv => whnf) | unfold k_call | ((with_reducible refine And.intro ?_ ?_); (first | (first | assumption | rfl | exact True.intro | exact Nat.le_of_ble_eq_true rfl | exact Or.inl rfl | exact Or.inr rfl | exact okv3 (by assumption) | decide | (focus (simp (disch := omega) only [r0, nI_clamp, vp_in_nI, hT_sI, hR_sI, hT_sJ, hR_sJ, hT_sR, hI_sJ, hI_sR, hJ_sI, hJ_sR, hI_eq, hI_ne, hI_nk]; done)) | (focus (simp (disch := omega) only [r0, nI_clamp, vp_in_nI, hT_sI, hR_sI, hT_sJ, hR_sJ, hT_sR, hI_sJ, hI_sR, hJ_sI, hJ_sR, hI_eq, hI_ne, hI_nk]; first | assumption | exact okv3 (by assumption)))) | (focus (refine ⟨_, rfl, ?_⟩; (first | assumption | rfl | exact True.intro | exact Nat.le_of_ble_eq_true rfl | exact Or.inl rfl | exact Or.inr rfl | exact okv3 (by assumption) | decide | (focus (simp (disch := omega) only [r0, nI_clamp, vp_in_nI, hT_sI, hR_sI, hT_sJ, hR_sJ, hT_sR, hI_sJ, hI_sR, hJ_sI, hJ_sR, hI_eq, hI_ne, hI_nk]; done)) | (focus (simp (disch := omega) only [r0, nI_clamp, vp_in_nI, hT_sI, hR_sI, hT_sJ, hR_sJ, hT_sR, hI_sJ, hI_sR, hJ_sI, hJ_sR, hI_eq, hI_ne, hI_nk]; first | assumption | exact okv3 (by assumption)))))))))
  refine takes_ok R1 hp2 hr2 (fun b2 R3 T3 => ?_)
  have T4 : hI b2 361 0 = 0 := Eq.trans (show hI b2 361 0 = hI b1 361 0 from T3) T2
  cases eo : (cTakeF A).2 with
  | none =>
    rw [eo] at k
    dsimp only at k
    repeat (first | (refine rs ?_; conv => whnf) | unfold k_call | ((with_reducible refine And.intro ?_ ?_); (first | (first | assumption | rfl | exact True.intro | exact Nat.le_of_ble_eq_true rfl | exact Or.inl rfl | exact Or.inr rfl | exact okv3 (by assumption) | decide | (focus (simp (disch := omega) only [r0, nI_clamp, vp_in_nI, hT_sI, hR_sI, hT_sJ, hR_sJ, hT_sR, hI_sJ, hI_sR, hJ_sI, hJ_sR, hI_eq, hI_ne, hI_nk]; done)) | (focus (simp (disch := omega) only [r0, nI_clamp, vp_in_nI, hT_sI, hR_sI, hT_sJ, hR_sJ, hT_sR, hI_sJ, hI_sR, hJ_sI, hJ_sR, hI_eq, hI_ne, hI_nk]; first | assumption | exact okv3 (by assumption)))) | (focus (refine ⟨_, rfl, ?_⟩; (first | assumption | rfl | exact True.intro | exact Nat.le_of_ble_eq_true rfl | exact Or.inl rfl | exact Or.inr rfl | exact okv3 (by assumption) | decide | (focus (simp (disch := omega) only [r0, nI_clamp, vp_in_nI, hT_sI, hR_sI, hT_sJ, hR_sJ, hT_sR, hI_sJ, hI_sR, hJ_sI, hJ_sR, hI_eq, hI_ne, hI_nk]; done)) | (focus (simp (disch := omega) only [r0, nI_clamp, vp_in_nI, hT_sI, hR_sI, hT_sJ, hR_sJ, hT_sR, hI_sJ, hI_sR, hJ_sI, hJ_sR, hI_eq, hI_ne, hI_nk]; first | assumption | exact okv3 (by assumption)))))))))
    refine br_t rfl ?_
    repeat (first | (refine rs ?_; conv => whnf) | unfold k_call | ((with_reducible refine And.intro ?_ ?_); (first | (first | assumption | rfl | exact True.intro | exact Nat.le_of_ble_eq_true rfl | exact Or.inl rfl | exact Or.inr rfl | exact okv3 (by assumption) | decide | (focus (simp (disch := omega) only [r0, nI_clamp, vp_in_nI, hT_sI, hR_sI, hT_sJ, hR_sJ, hT_sR, hI_sJ, hI_sR, hJ_sI, hJ_sR, hI_eq, hI_ne, hI_nk]; done)) | (focus (simp (disch := omega) only [r0, nI_clamp, vp_in_nI, hT_sI, hR_sI, hT_sJ, hR_sJ, hT_sR, hI_sJ, hI_sR, hJ_sI, hJ_sR, hI_eq, hI_ne, hI_nk]; first | assumption | exact okv3 (by assumption)))) | (focus (refine ⟨_, rfl, ?_⟩; (first | assumption | rfl | exact True.intro | exact Nat.le_of_ble_eq_true rfl | exact Or.inl rfl | exact Or.inr rfl | exact okv3 (by assumption) | decide | (focus (simp (disch := omega) only [r0, nI_clamp, vp_in_nI, hT_sI, hR_sI, hT_sJ, hR_sJ, hT_sR, hI_sJ, hI_sR, hJ_sI, hJ_sR, hI_eq, hI_ne, hI_nk]; done)) | (focus (simp (disch := omega) only [r0, nI_clamp, vp_in_nI, hT_sI, hR_sI, hT_sJ, hR_sJ, hT_sR, hI_sJ, hI_sR, hJ_sI, hJ_sR, hI_eq, hI_ne, hI_nk]; first | assumption | exact okv3 (by assumption)))))))))
    exact k b2 (-1) (R3.up (by omega) hn) ⟨T4, rfl⟩
  | some i =>
    have hfr := takeF_free R1 eo
    have hst := takeF_st R1 eo hs hno2
    have nG : nN (cTakeF A).1 = nN A := by unfold nN; rw [takeF_low R1 (by omega)]
    have hi16 := R1.ln.1
    rw [eo] at k
    dsimp only at k
    generalize (cTakeF A).1 = g at k R3 hfr hst nG
    have m23 := R3.ml.2.2.2.2.2.2.2.2.2.2.2.2.2.2.2.2.2.2.2.2.2.2.2
    have n0 := R3.ml.1
    have n7 : hR b2 361 7 = 368 := R3.ml.2.2.2.2.2.2.2.1
    have n18 : hT b2 368 = (107, 16) := R3.ml.2.2.2.2.2.2.2.2.2.2.2.2.2.2.2.2.2.2.1
    have R4 := RR_comeW (i := i) (s := sp) (v := v) R3 hn (by rw [nG]; exact hfr.1) hfr.2 hs hst.2.1 (by rw [hst.1]; exact hp2) hv
    obtain ⟨q1, q2, q3, q4, q5, q6, q7, q8⟩ := mComes_rd (b := b2) (i := i) (s := sp) m23
    clear r0
    repeat (first | (refine rs ?_; conv => whnf) | unfold k_call | ((with_reducible refine And.intro ?_ ?_); (first | (first | assumption | rfl | exact True.intro | exact Nat.le_of_ble_eq_true rfl | exact Or.inl rfl | exact Or.inr rfl | exact okv3 (by assumption) | decide | (focus (simp (disch := omega) only [n0, nI_clamp, vp_in_nI, hT_sI, hR_sI, hT_sJ, hR_sJ, hT_sR, hI_sJ, hI_sR, hJ_sI, hJ_sR, hI_eq, hI_ne, hI_nk]; done)) | (focus (simp (disch := omega) only [n0, nI_clamp, vp_in_nI, hT_sI, hR_sI, hT_sJ, hR_sJ, hT_sR, hI_sJ, hI_sR, hJ_sI, hJ_sR, hI_eq, hI_ne, hI_nk]; first | assumption | exact okv3 (by assumption)))) | (focus (refine ⟨_, rfl, ?_⟩; (first | assumption | rfl | exact True.intro | exact Nat.le_of_ble_eq_true rfl | exact Or.inl rfl | exact Or.inr rfl | exact okv3 (by assumption) | decide | (focus (simp (disch := omega) only [n0, nI_clamp, vp_in_nI, hT_sI, hR_sI, hT_sJ, hR_sJ, hT_sR, hI_sJ, hI_sR, hJ_sI, hJ_sR, hI_eq, hI_ne, hI_nk]; done)) | (focus (simp (disch := omega) only [n0, nI_clamp, vp_in_nI, hT_sI, hR_sI, hT_sJ, hR_sJ, hT_sR, hI_sJ, hI_sR, hJ_sI, hJ_sR, hI_eq, hI_ne, hI_nk]; first | assumption | exact okv3 (by assumption)))))))))
    refine br_f (nI_n1 (by omega)) ?_
    repeat (first | (refine rs ?_; conv => whnf) | unfold k_call | ((with_reducible refine And.intro ?_ ?_); (first | (first | assumption | rfl | exact True.intro | exact Nat.le_of_ble_eq_true rfl | exact Or.inl rfl | exact Or.inr rfl | exact okv3 (by assumption) | decide | (focus (simp (disch := omega) only [n0, nI_clamp, vp_in_nI, hT_sI, hR_sI, hT_sJ, hR_sJ, hT_sR, hI_sJ, hI_sR, hJ_sI, hJ_sR, hI_eq, hI_ne, hI_nk]; done)) | (focus (simp (disch := omega) only [n0, nI_clamp, vp_in_nI, hT_sI, hR_sI, hT_sJ, hR_sJ, hT_sR, hI_sJ, hI_sR, hJ_sI, hJ_sR, hI_eq, hI_ne, hI_nk]; first | assumption | exact okv3 (by assumption)))) | (focus (refine ⟨_, rfl, ?_⟩; (first | assumption | rfl | exact True.intro | exact Nat.le_of_ble_eq_true rfl | exact Or.inl rfl | exact Or.inr rfl | exact okv3 (by assumption) | decide | (focus (simp (disch := omega) only [n0, nI_clamp, vp_in_nI, hT_sI, hR_sI, hT_sJ, hR_sJ, hT_sR, hI_sJ, hI_sR, hJ_sI, hJ_sR, hI_eq, hI_ne, hI_nk]; done)) | (focus (simp (disch := omega) only [n0, nI_clamp, vp_in_nI, hT_sI, hR_sI, hT_sJ, hR_sJ, hT_sR, hI_sJ, hI_sR, hJ_sI, hJ_sR, hI_eq, hI_ne, hI_nk]; first | assumption | exact okv3 (by assumption)))))))))
    refine comes_ok R3.ml (by omega) ?_
    repeat (first | (refine rs ?_; conv => whnf) | unfold k_call | ((with_reducible refine And.intro ?_ ?_); (first | (first | assumption | rfl | exact True.intro | exact Nat.le_of_ble_eq_true rfl | exact Or.inl rfl | exact Or.inr rfl | exact okv3 (by assumption) | decide | (focus (simp (disch := omega) only [n0, nI_clamp, vp_in_nI, hT_sI, hR_sI, hT_sJ, hR_sJ, hT_sR, hI_sJ, hI_sR, hJ_sI, hJ_sR, hI_eq, hI_ne, hI_nk]; done)) | (focus (simp (disch := omega) only [n0, nI_clamp, vp_in_nI, hT_sI, hR_sI, hT_sJ, hR_sJ, hT_sR, hI_sJ, hI_sR, hJ_sI, hJ_sR, hI_eq, hI_ne, hI_nk]; first | assumption | exact okv3 (by assumption)))) | (focus (refine ⟨_, rfl, ?_⟩; (first | assumption | rfl | exact True.intro | exact Nat.le_of_ble_eq_true rfl | exact Or.inl rfl | exact Or.inr rfl | exact okv3 (by assumption) | decide | (focus (simp (disch := omega) only [n0, nI_clamp, vp_in_nI, hT_sI, hR_sI, hT_sJ, hR_sJ, hT_sR, hI_sJ, hI_sR, hJ_sI, hJ_sR, hI_eq, hI_ne, hI_nk]; done)) | (focus (simp (disch := omega) only [n0, nI_clamp, vp_in_nI, hT_sI, hR_sI, hT_sJ, hR_sJ, hT_sR, hI_sJ, hI_sR, hJ_sI, hJ_sR, hI_eq, hI_ne, hI_nk]; first | assumption | exact okv3 (by assumption)))))))))
    refine chg_walk (p := hN b2) hX (by rw [q2, if_neg (by omega)]; exact n0) (by rw [q3, if_neg (by omega), if_neg (by omega)]; exact n7) (by rw [q2, if_neg (by omega)]; exact n18) (by omega) (by rw [q3, if_pos ⟨rfl, rfl⟩]) (by rw [q2, if_pos rfl]) m23 (by omega) (by omega) 1 (Or.inl ⟨rfl, rfl⟩) ?_
    have pow : hI (cChange (cCome g 313 i (nI sp) v) i v 1) 300 14 = 1 := by rw [chg_oth (by omega) (by omega), hI_come (by omega) (by omega), hst.1]; exact hp2
    have T5 : hI (mChange (mComes b2 i sp) (hN b2) v 1) 361 0 = 0 := by rw [mChg_rt.2.2.2.1 _ _ (by omega), q4 _ _ (by omega)]; exact T4
    have h17 := R4.ln.1
    have hle := cnt_le (dyP (cChange (cCome g 313 i (nI sp) v) i v 1) 313 0) (nN (cChange (cCome g 313 i (nI sp) v) i v 1))
    exact wait_loop hX 16 0 _ _ _ _ R4 pow (by omega) (by omega) (by omega) (fun b' r R5 T6 hr => k b' r R5 ⟨Eq.trans T6 T5, by rw [hr]⟩)
