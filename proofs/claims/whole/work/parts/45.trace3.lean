/-! THE TRACE: room by a policy -/
def cRoom (h : CH) (ta n hd : Nat) (pol : Int32) : CH × Option Nat :=
  match lst (frP h (ta + 5)) n with
  | some i => (h, some i)
  | none => if pol = 98 then (h, some (cFar h ta n)) else cChoose h (ta + 5) n hd pol 0 (-1)
theorem roomBy_ok {h : CH} {ta n hd : Nat} {pol : Int32} {Q : QT} (ht : TraL h ta) (hn : hI h (ta + 5) 1 = nI n) (h1 : 1 ≤ n) (h16 : n ≤ 16) (hh : hI h (ta + 5) 2 = nI hd) (hd16 : hd ≤ 16) (k : Q (.inl [.int (ixI (cRoom h ta n hd pol).2)]) (cRoom h ta n hd pol).1) : wX7_roomBy [.ref ta, .int pol] h Q := by
  refine wgo (fun X hX => ?_) (by show 2 ≤ 3; decide)
  obtain ⟨t0, t1, t2, t3, t4, t5, t6, t7, t8, t9, p0⟩ := id ht
  have p1 := p0.1
  unfold cRoom at k
  (refine go mX7_roomBy hX [] 400 ?_; conv => whnf)
  repeat (first | (refine rs ?_; conv => whnf) | unfold k_call | ((with_reducible refine And.intro ?_ ?_); (first | (first | assumption | rfl | exact True.intro | exact Nat.le_of_ble_eq_true rfl | exact Or.inl rfl | exact Or.inr rfl | exact okv3 (by assumption) | decide | (focus (simp (disch := omega) only [t0, t1, t2, t3, t4, t5, t6, t7, t8, t9, p1, nI_clamp, vp_in_nI, hT_sI, hR_sI, hT_sJ, hR_sJ, hT_sR, hI_sJ, hI_sR, hJ_sI, hJ_sR, hI_eq, hI_ne, hI_nk]; done)) | (focus (simp (disch := omega) only [t0, t1, t2, t3, t4, t5, t6, t7, t8, t9, p1, nI_clamp, vp_in_nI, hT_sI, hR_sI, hT_sJ, hR_sJ, hT_sR, hI_sJ, hI_sR, hJ_sI, hJ_sR, hI_eq, hI_ne, hI_nk]; first | assumption | exact okv3 (by assumption)))) | (focus (refine ⟨_, rfl, ?_⟩; (first | assumption | rfl | exact True.intro | exact Nat.le_of_ble_eq_true rfl | exact Or.inl rfl | exact Or.inr rfl | exact okv3 (by assumption) | decide | (focus (simp (disch := omega) only [t0, t1, t2, t3, t4, t5, t6, t7, t8, t9, p1, nI_clamp, vp_in_nI, hT_sI, hR_sI, hT_sJ, hR_sJ, hT_sR, hI_sJ, hI_sR, hJ_sI, hJ_sR, hI_eq, hI_ne, hI_nk]; done)) | (focus (simp (disch := omega) only [t0, t1, t2, t3, t4, t5, t6, t7, t8, t9, p1, nI_clamp, vp_in_nI, hT_sI, hR_sI, hT_sJ, hR_sJ, hT_sR, hI_sJ, hI_sR, hJ_sI, hJ_sR, hI_eq, hI_ne, hI_nk]; first | assumption | exact okv3 (by assumption)))))))))
  (try simp (disch := omega) only [t0, t1, t2, t3, t4, t5, t6, t7, t8, t9, p1, nI_clamp, vp_in_nI, hT_sI, hR_sI, hT_sJ, hR_sJ, hT_sR, hI_sJ, hI_sR, hJ_sI, hJ_sR, hI_eq, hI_ne, hI_nk])
  refine lowF_ok p0 hn h16 ?_
  cases q : lst (frP h (ta + 5)) n with
  | some i =>
    rw [q] at k
    have hi := (lst_some q).1
    repeat (first | (refine rs ?_; conv => whnf) | unfold k_call | ((with_reducible refine And.intro ?_ ?_); (first | (first | assumption | rfl | exact True.intro | exact Nat.le_of_ble_eq_true rfl | exact Or.inl rfl | exact Or.inr rfl | exact okv3 (by assumption) | decide | (focus (simp (disch := omega) only [t0, t1, t2, t3, t4, t5, t6, t7, t8, t9, p1, nI_clamp, vp_in_nI, hT_sI, hR_sI, hT_sJ, hR_sJ, hT_sR, hI_sJ, hI_sR, hJ_sI, hJ_sR, hI_eq, hI_ne, hI_nk]; done)) | (focus (simp (disch := omega) only [t0, t1, t2, t3, t4, t5, t6, t7, t8, t9, p1, nI_clamp, vp_in_nI, hT_sI, hR_sI, hT_sJ, hR_sJ, hT_sR, hI_sJ, hI_sR, hJ_sI, hJ_sR, hI_eq, hI_ne, hI_nk]; first | assumption | exact okv3 (by assumption)))) | (focus (refine ⟨_, rfl, ?_⟩; (first | assumption | rfl | exact True.intro | exact Nat.le_of_ble_eq_true rfl | exact Or.inl rfl | exact Or.inr rfl | exact okv3 (by assumption) | decide | (focus (simp (disch := omega) only [t0, t1, t2, t3, t4, t5, t6, t7, t8, t9, p1, nI_clamp, vp_in_nI, hT_sI, hR_sI, hT_sJ, hR_sJ, hT_sR, hI_sJ, hI_sR, hJ_sI, hJ_sR, hI_eq, hI_ne, hI_nk]; done)) | (focus (simp (disch := omega) only [t0, t1, t2, t3, t4, t5, t6, t7, t8, t9, p1, nI_clamp, vp_in_nI, hT_sI, hR_sI, hT_sJ, hR_sJ, hT_sR, hI_sJ, hI_sR, hJ_sI, hJ_sR, hI_eq, hI_ne, hI_nk]; first | assumption | exact okv3 (by assumption)))))))))
    refine br_f (nI_pos (by omega)) ?_
    repeat (first | (refine rs ?_; conv => whnf) | unfold k_call | ((with_reducible refine And.intro ?_ ?_); (first | (first | assumption | rfl | exact True.intro | exact Nat.le_of_ble_eq_true rfl | exact Or.inl rfl | exact Or.inr rfl | exact okv3 (by assumption) | decide | (focus (simp (disch := omega) only [t0, t1, t2, t3, t4, t5, t6, t7, t8, t9, p1, nI_clamp, vp_in_nI, hT_sI, hR_sI, hT_sJ, hR_sJ, hT_sR, hI_sJ, hI_sR, hJ_sI, hJ_sR, hI_eq, hI_ne, hI_nk]; done)) | (focus (simp (disch := omega) only [t0, t1, t2, t3, t4, t5, t6, t7, t8, t9, p1, nI_clamp, vp_in_nI, hT_sI, hR_sI, hT_sJ, hR_sJ, hT_sR, hI_sJ, hI_sR, hJ_sI, hJ_sR, hI_eq, hI_ne, hI_nk]; first | assumption | exact okv3 (by assumption)))) | (focus (refine ⟨_, rfl, ?_⟩; (first | assumption | rfl | exact True.intro | exact Nat.le_of_ble_eq_true rfl | exact Or.inl rfl | exact Or.inr rfl | exact okv3 (by assumption) | decide | (focus (simp (disch := omega) only [t0, t1, t2, t3, t4, t5, t6, t7, t8, t9, p1, nI_clamp, vp_in_nI, hT_sI, hR_sI, hT_sJ, hR_sJ, hT_sR, hI_sJ, hI_sR, hJ_sI, hJ_sR, hI_eq, hI_ne, hI_nk]; done)) | (focus (simp (disch := omega) only [t0, t1, t2, t3, t4, t5, t6, t7, t8, t9, p1, nI_clamp, vp_in_nI, hT_sI, hR_sI, hT_sJ, hR_sJ, hT_sR, hI_sJ, hI_sR, hJ_sI, hJ_sR, hI_eq, hI_ne, hI_nk]; first | assumption | exact okv3 (by assumption)))))))))
    exact k
  | none =>
    rw [q] at k
    dsimp only at k
    repeat (first | (refine rs ?_; conv => whnf) | unfold k_call | ((with_reducible refine And.intro ?_ ?_); (first | (first | assumption | rfl | exact True.intro | exact Nat.le_of_ble_eq_true rfl | exact Or.inl rfl | exact Or.inr rfl | exact okv3 (by assumption) | decide | (focus (simp (disch := omega) only [t0, t1, t2, t3, t4, t5, t6, t7, t8, t9, p1, nI_clamp, vp_in_nI, hT_sI, hR_sI, hT_sJ, hR_sJ, hT_sR, hI_sJ, hI_sR, hJ_sI, hJ_sR, hI_eq, hI_ne, hI_nk]; done)) | (focus (simp (disch := omega) only [t0, t1, t2, t3, t4, t5, t6, t7, t8, t9, p1, nI_clamp, vp_in_nI, hT_sI, hR_sI, hT_sJ, hR_sJ, hT_sR, hI_sJ, hI_sR, hJ_sI, hJ_sR, hI_eq, hI_ne, hI_nk]; first | assumption | exact okv3 (by assumption)))) | (focus (refine ⟨_, rfl, ?_⟩; (first | assumption | rfl | exact True.intro | exact Nat.le_of_ble_eq_true rfl | exact Or.inl rfl | exact Or.inr rfl | exact okv3 (by assumption) | decide | (focus (simp (disch := omega) only [t0, t1, t2, t3, t4, t5, t6, t7, t8, t9, p1, nI_clamp, vp_in_nI, hT_sI, hR_sI, hT_sJ, hR_sJ, hT_sR, hI_sJ, hI_sR, hJ_sI, hJ_sR, hI_eq, hI_ne, hI_nk]; done)) | (focus (simp (disch := omega) only [t0, t1, t2, t3, t4, t5, t6, t7, t8, t9, p1, nI_clamp, vp_in_nI, hT_sI, hR_sI, hT_sJ, hR_sJ, hT_sR, hI_sJ, hI_sR, hJ_sI, hJ_sR, hI_eq, hI_ne, hI_nk]; first | assumption | exact okv3 (by assumption)))))))))
    refine br_t (show (-1 : Int32) < 0 by decide) ?_
    repeat (first | (refine rs ?_; conv => whnf) | unfold k_call | ((with_reducible refine And.intro ?_ ?_); (first | (first | assumption | rfl | exact True.intro | exact Nat.le_of_ble_eq_true rfl | exact Or.inl rfl | exact Or.inr rfl | exact okv3 (by assumption) | decide | (focus (simp (disch := omega) only [t0, t1, t2, t3, t4, t5, t6, t7, t8, t9, p1, nI_clamp, vp_in_nI, hT_sI, hR_sI, hT_sJ, hR_sJ, hT_sR, hI_sJ, hI_sR, hJ_sI, hJ_sR, hI_eq, hI_ne, hI_nk]; done)) | (focus (simp (disch := omega) only [t0, t1, t2, t3, t4, t5, t6, t7, t8, t9, p1, nI_clamp, vp_in_nI, hT_sI, hR_sI, hT_sJ, hR_sJ, hT_sR, hI_sJ, hI_sR, hJ_sI, hJ_sR, hI_eq, hI_ne, hI_nk]; first | assumption | exact okv3 (by assumption)))) | (focus (refine ⟨_, rfl, ?_⟩; (first | assumption | rfl | exact True.intro | exact Nat.le_of_ble_eq_true rfl | exact Or.inl rfl | exact Or.inr rfl | exact okv3 (by assumption) | decide | (focus (simp (disch := omega) only [t0, t1, t2, t3, t4, t5, t6, t7, t8, t9, p1, nI_clamp, vp_in_nI, hT_sI, hR_sI, hT_sJ, hR_sJ, hT_sR, hI_sJ, hI_sR, hJ_sI, hJ_sR, hI_eq, hI_ne, hI_nk]; done)) | (focus (simp (disch := omega) only [t0, t1, t2, t3, t4, t5, t6, t7, t8, t9, p1, nI_clamp, vp_in_nI, hT_sI, hR_sI, hT_sJ, hR_sJ, hT_sR, hI_sJ, hI_sR, hJ_sI, hJ_sR, hI_eq, hI_ne, hI_nk]; first | assumption | exact okv3 (by assumption)))))))))
    (refine ⟨fun c => ?_, fun c => ?_⟩ <;> (try dsimp only at c))
    · rw [if_pos c] at k
      repeat (first | (refine rs ?_; conv => whnf) | unfold k_call | ((with_reducible refine And.intro ?_ ?_); (first | (first | assumption | rfl | exact True.intro | exact Nat.le_of_ble_eq_true rfl | exact Or.inl rfl | exact Or.inr rfl | exact okv3 (by assumption) | decide | (focus (simp (disch := omega) only [t0, t1, t2, t3, t4, t5, t6, t7, t8, t9, p1, nI_clamp, vp_in_nI, hT_sI, hR_sI, hT_sJ, hR_sJ, hT_sR, hI_sJ, hI_sR, hJ_sI, hJ_sR, hI_eq, hI_ne, hI_nk]; done)) | (focus (simp (disch := omega) only [t0, t1, t2, t3, t4, t5, t6, t7, t8, t9, p1, nI_clamp, vp_in_nI, hT_sI, hR_sI, hT_sJ, hR_sJ, hT_sR, hI_sJ, hI_sR, hJ_sI, hJ_sR, hI_eq, hI_ne, hI_nk]; first | assumption | exact okv3 (by assumption)))) | (focus (refine ⟨_, rfl, ?_⟩; (first | assumption | rfl | exact True.intro | exact Nat.le_of_ble_eq_true rfl | exact Or.inl rfl | exact Or.inr rfl | exact okv3 (by assumption) | decide | (focus (simp (disch := omega) only [t0, t1, t2, t3, t4, t5, t6, t7, t8, t9, p1, nI_clamp, vp_in_nI, hT_sI, hR_sI, hT_sJ, hR_sJ, hT_sR, hI_sJ, hI_sR, hJ_sI, hJ_sR, hI_eq, hI_ne, hI_nk]; done)) | (focus (simp (disch := omega) only [t0, t1, t2, t3, t4, t5, t6, t7, t8, t9, p1, nI_clamp, vp_in_nI, hT_sI, hR_sI, hT_sJ, hR_sJ, hT_sR, hI_sJ, hI_sR, hJ_sI, hJ_sR, hI_eq, hI_ne, hI_nk]; first | assumption | exact okv3 (by assumption)))))))))
      refine farthest_ok ht hn h1 h16 ?_
      repeat (first | (refine rs ?_; conv => whnf) | unfold k_call | ((with_reducible refine And.intro ?_ ?_); (first | (first | assumption | rfl | exact True.intro | exact Nat.le_of_ble_eq_true rfl | exact Or.inl rfl | exact Or.inr rfl | exact okv3 (by assumption) | decide | (focus (simp (disch := omega) only [t0, t1, t2, t3, t4, t5, t6, t7, t8, t9, p1, nI_clamp, vp_in_nI, hT_sI, hR_sI, hT_sJ, hR_sJ, hT_sR, hI_sJ, hI_sR, hJ_sI, hJ_sR, hI_eq, hI_ne, hI_nk]; done)) | (focus (simp (disch := omega) only [t0, t1, t2, t3, t4, t5, t6, t7, t8, t9, p1, nI_clamp, vp_in_nI, hT_sI, hR_sI, hT_sJ, hR_sJ, hT_sR, hI_sJ, hI_sR, hJ_sI, hJ_sR, hI_eq, hI_ne, hI_nk]; first | assumption | exact okv3 (by assumption)))) | (focus (refine ⟨_, rfl, ?_⟩; (first | assumption | rfl | exact True.intro | exact Nat.le_of_ble_eq_true rfl | exact Or.inl rfl | exact Or.inr rfl | exact okv3 (by assumption) | decide | (focus (simp (disch := omega) only [t0, t1, t2, t3, t4, t5, t6, t7, t8, t9, p1, nI_clamp, vp_in_nI, hT_sI, hR_sI, hT_sJ, hR_sJ, hT_sR, hI_sJ, hI_sR, hJ_sI, hJ_sR, hI_eq, hI_ne, hI_nk]; done)) | (focus (simp (disch := omega) only [t0, t1, t2, t3, t4, t5, t6, t7, t8, t9, p1, nI_clamp, vp_in_nI, hT_sI, hR_sI, hT_sJ, hR_sJ, hT_sR, hI_sJ, hI_sR, hJ_sI, hJ_sR, hI_eq, hI_ne, hI_nk]; first | assumption | exact okv3 (by assumption)))))))))
      exact k
    · rw [if_neg c] at k
      repeat (first | (refine rs ?_; conv => whnf) | unfold k_call | ((with_reducible refine And.intro ?_ ?_); (first | (first | assumption | rfl | exact True.intro | exact Nat.le_of_ble_eq_true rfl | exact Or.inl rfl | exact Or.inr rfl | exact okv3 (by assumption) | decide | (focus (simp (disch := omega) only [t0, t1, t2, t3, t4, t5, t6, t7, t8, t9, p1, nI_clamp, vp_in_nI, hT_sI, hR_sI, hT_sJ, hR_sJ, hT_sR, hI_sJ, hI_sR, hJ_sI, hJ_sR, hI_eq, hI_ne, hI_nk]; done)) | (focus (simp (disch := omega) only [t0, t1, t2, t3, t4, t5, t6, t7, t8, t9, p1, nI_clamp, vp_in_nI, hT_sI, hR_sI, hT_sJ, hR_sJ, hT_sR, hI_sJ, hI_sR, hJ_sI, hJ_sR, hI_eq, hI_ne, hI_nk]; first | assumption | exact okv3 (by assumption)))) | (focus (refine ⟨_, rfl, ?_⟩; (first | assumption | rfl | exact True.intro | exact Nat.le_of_ble_eq_true rfl | exact Or.inl rfl | exact Or.inr rfl | exact okv3 (by assumption) | decide | (focus (simp (disch := omega) only [t0, t1, t2, t3, t4, t5, t6, t7, t8, t9, p1, nI_clamp, vp_in_nI, hT_sI, hR_sI, hT_sJ, hR_sJ, hT_sR, hI_sJ, hI_sR, hJ_sI, hJ_sR, hI_eq, hI_ne, hI_nk]; done)) | (focus (simp (disch := omega) only [t0, t1, t2, t3, t4, t5, t6, t7, t8, t9, p1, nI_clamp, vp_in_nI, hT_sI, hR_sI, hT_sJ, hR_sJ, hT_sR, hI_sJ, hI_sR, hJ_sI, hJ_sR, hI_eq, hI_ne, hI_nk]; first | assumption | exact okv3 (by assumption)))))))))
      (try simp (disch := omega) only [t0, t1, t2, t3, t4, t5, t6, t7, t8, t9, p1, nI_clamp, vp_in_nI, hT_sI, hR_sI, hT_sJ, hR_sJ, hT_sR, hI_sJ, hI_sR, hJ_sI, hJ_sR, hI_eq, hI_ne, hI_nk])
      refine choose_ok p0 hn h16 hh hd16 ?_
      repeat (first | (refine rs ?_; conv => whnf) | unfold k_call | ((with_reducible refine And.intro ?_ ?_); (first | (first | assumption | rfl | exact True.intro | exact Nat.le_of_ble_eq_true rfl | exact Or.inl rfl | exact Or.inr rfl | exact okv3 (by assumption) | decide | (focus (simp (disch := omega) only [t0, t1, t2, t3, t4, t5, t6, t7, t8, t9, p1, nI_clamp, vp_in_nI, hT_sI, hR_sI, hT_sJ, hR_sJ, hT_sR, hI_sJ, hI_sR, hJ_sI, hJ_sR, hI_eq, hI_ne, hI_nk]; done)) | (focus (simp (disch := omega) only [t0, t1, t2, t3, t4, t5, t6, t7, t8, t9, p1, nI_clamp, vp_in_nI, hT_sI, hR_sI, hT_sJ, hR_sJ, hT_sR, hI_sJ, hI_sR, hJ_sI, hJ_sR, hI_eq, hI_ne, hI_nk]; first | assumption | exact okv3 (by assumption)))) | (focus (refine ⟨_, rfl, ?_⟩; (first | assumption | rfl | exact True.intro | exact Nat.le_of_ble_eq_true rfl | exact Or.inl rfl | exact Or.inr rfl | exact okv3 (by assumption) | decide | (focus (simp (disch := omega) only [t0, t1, t2, t3, t4, t5, t6, t7, t8, t9, p1, nI_clamp, vp_in_nI, hT_sI, hR_sI, hT_sJ, hR_sJ, hT_sR, hI_sJ, hI_sR, hJ_sI, hJ_sR, hI_eq, hI_ne, hI_nk]; done)) | (focus (simp (disch := omega) only [t0, t1, t2, t3, t4, t5, t6, t7, t8, t9, p1, nI_clamp, vp_in_nI, hT_sI, hR_sI, hT_sJ, hR_sJ, hT_sR, hI_sJ, hI_sR, hJ_sI, hJ_sR, hI_eq, hI_ne, hI_nk]; first | assumption | exact okv3 (by assumption)))))))))
      exact k
/-- nothing but a pool's hand and the marks of use since it moved -/
def HandO (pa : Nat) (h g : CH) : Prop := hT g = hT h ∧ hR g = hR h ∧ hJ g = hJ h ∧ (∀ a k, ¬ (a = pa ∧ k = 2) → ¬ (k = 7 ∧ pa ≤ a ∧ a < pa + 18) → hI g a k = hI h a k) ∧ ((hI g pa 2 = hI h pa 2) ∨ ∃ j, j < 16 ∧ hI g pa 2 = nI j)
theorem hao_rfl (pa : Nat) (h : CH) : HandO pa h h := ⟨rfl, rfl, rfl, fun _ _ _ _ => rfl, Or.inl rfl⟩
theorem hao_sweep {pa n : Nat} {cl aside : Int32} (h0 : 0 < n) (h16 : n ≤ 16) : ∀ (m hd : Nat) (h : CH), HandO pa h (cSweep pa n cl aside m hd h).1
  | 0, hd, h => hao_rfl pa h
  | m + 1, hd, h => by
    have b1 : HandO pa h (sI h pa 2 (nI (swNx n hd))) := ⟨rfl, rfl, rfl, fun a k c _ => by rw [hI_sI, if_neg c], Or.inr ⟨_, Nat.lt_of_lt_of_le (swNx_lt h0) h16, by rw [hI_sI, if_pos ⟨rfl, rfl⟩]⟩⟩
    have tr : ∀ g g2 : CH, HandO pa h g → HandO pa g g2 → HandO pa h g2 := fun g g2 a b => ⟨b.1.trans a.1, b.2.1.trans a.2.1, b.2.2.1.trans a.2.2.1, fun x k c d => (b.2.2.2.1 x k c d).trans (a.2.2.2.1 x k c d), b.2.2.2.2.elim (fun e => a.2.2.2.2.elim (fun e2 => Or.inl (e.trans e2)) (fun ⟨j, hj, e2⟩ => Or.inr ⟨j, hj, e.trans e2⟩)) Or.inr⟩
    unfold cSweep
    split
    · split
      · exact b1
      · have hs := swAt_lt (hd := hd) h0
        have b2 : HandO pa (sI h pa 2 (nI (swNx n hd))) (sI (sI h pa 2 (nI (swNx n hd))) (pa + 2 + swAt n hd) 7 0) := ⟨rfl, rfl, rfl, fun a k _ d => by rw [hI_sI, if_neg (fun q => d ⟨q.2, by omega, by omega⟩)], Or.inl (by rw [hI_sI, if_neg (by omega)])⟩
        exact tr _ _ (tr _ _ b1 b2) (hao_sweep h0 h16 m _ _)
    · exact tr _ _ b1 (hao_sweep h0 h16 m _ _)
theorem hao_room {h : CH} {ta n hd : Nat} {pol : Int32} (h0 : 1 ≤ n) (h16 : n ≤ 16) : HandO (ta + 5) h (cRoom h ta n hd pol).1 := by
  unfold cRoom
  split
  · exact hao_rfl _ h
  · split
    · exact hao_rfl _ h
    · unfold cChoose
      split
      · split
        · exact hao_sweep h0 h16 _ _ _
        · exact hao_rfl _ h
      · exact hao_rfl _ h
theorem cSweep_lt {pa n : Nat} {cl aside : Int32} (h0 : 0 < n) : ∀ (m hd : Nat) (h : CH) (i : Nat), (cSweep pa n cl aside m hd h).2 = some i → i < n
  | 0, hd, h, i, e => by cases e
  | m + 1, hd, h, i, e => by
    have hs := swAt_lt (hd := hd) h0
    unfold cSweep at e
    split at e
    · split at e
      · cases e
        exact hs
      · exact cSweep_lt h0 m _ _ i e
    · exact cSweep_lt h0 m _ _ i e
theorem cRoom_lt {h : CH} {ta n hd i : Nat} {pol : Int32} (h0 : 1 ≤ n) (e : (cRoom h ta n hd pol).2 = some i) : i < n := by
  unfold cRoom at e
  split at e
  · next q =>
    cases e
    exact (lst_some q).1
  · split at e
    · cases e
      have := cFar_lt (h := h) (ta := ta) n
      omega
    · unfold cChoose at e
      split at e
      · split at e
        · exact cSweep_lt h0 _ _ _ _ e
        · exact (cOld_lt e).1
      · cases e
theorem TraL_hao {h g : CH} {pa ta : Nat} (H : HandO pa h g) (ht : TraL h ta) : TraL g ta := by
  unfold TraL PoolL at ht ⊢
  rw [H.1, H.2.1]
  exact ht
