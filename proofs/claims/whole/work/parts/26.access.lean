/-! THE HOUSE: spots, the frame taken, pages brought and brought ahead -/
def lst (p : Nat → Bool) : Nat → Option Nat
  | 0 => none
  | n + 1 => match lst p n with
    | some i => some i
    | none => if p n then some n else none
theorem lst_no {p : Nat → Bool} : ∀ {n : Nat}, (∀ j, j < n → p j = false) → lst p n = none
  | 0, _ => rfl
  | n + 1, H => by
    unfold lst
    rw [lst_no (n := n) (fun j hj => H j (by omega)), H n (by omega)]
    rfl
theorem lst_of {p : Nat → Bool} {i : Nat} (hp : p i = true) (hb : ∀ j, j < i → p j = false) : ∀ {n : Nat}, i < n → lst p n = some i
  | 0, hi => absurd hi (Nat.not_lt_zero _)
  | n + 1, hi => by
    unfold lst
    by_cases e : i = n
    · subst e
      rw [lst_no hb, hp]
      rfl
    · rw [lst_of hp hb (n := n) (by omega)]
theorem lst_some {p : Nat → Bool} : ∀ {n i : Nat}, lst p n = some i → i < n ∧ p i = true
  | 0, i, e => by cases e
  | n + 1, i, e => by
    unfold lst at e
    cases q : lst p n with
    | some j =>
      rw [q] at e
      cases e
      have z := lst_some q
      exact ⟨by omega, z.2⟩
    | none =>
      rw [q] at e
      by_cases w : p n = true
      · rw [w] at e
        cases e
        exact ⟨by omega, w⟩
      · rw [if_neg w] at e
        cases e
def frP (h : CH) (pa : Nat) (i : Nat) : Bool := decide (hI h (pa + 2 + i) 0 = -1)
def atP (h : CH) (pa : Nat) (s : Int32) (i : Nat) : Bool := decide (hI h (pa + 2 + i) 0 = s)
theorem lowF_ok {h : CH} {pa n : Nat} {Q : QT} (hp : PoolL h pa) (hn : hI h pa 1 = nI n) (h16 : n ≤ 16) (k : Q (.inl [.int (ixI (lst (frP h pa) n))]) h) : wX6_lowestFree [.ref pa] h Q :=
  lowestFree_ok hp hn h16 (fun i hi e b => by
    rw [lst_of (p := frP h pa) (i := i) (decide_eq_true e) (fun j hj => decide_eq_false (b j hj)) hi] at k
    exact k) (fun b => by
    rw [lst_no (p := frP h pa) (fun j hj => decide_eq_false (b j hj))] at k
    exact k)
theorem findF_ok {h : CH} {pa n : Nat} {spot : Int32} {Q : QT} (hp : PoolL h pa) (hn : hI h pa 1 = nI n) (h16 : n ≤ 16) (k : Q (.inl [.int (ixI (lst (atP h pa spot) n))]) h) : wX6_find [.ref pa, .int spot] h Q :=
  find_ok hp hn h16 (fun i hi e b => by
    rw [lst_of (p := atP h pa spot) (i := i) (decide_eq_true e) (fun j hj => decide_eq_false (b j hj)) hi] at k
    exact k) (fun b => by
    rw [lst_no (p := atP h pa spot) (fun j hj => decide_eq_false (b j hj))] at k
    exact k)
def nN (h : CH) : Nat := (hI h 313 1).toNatClampNeg
def hdN (h : CH) : Nat := (hI h 313 2).toNatClampNeg
def tN (h : CH) : Nat := (hI h 300 13).toNatClampNeg
def spN (h : CH) (i : Nat) : Nat := (hI h (313 + 2 + i) 0).toNatClampNeg
def NumL (h : CH) : Prop := hI h 313 1 = nI (nN h) ∧ 1 ≤ nN h ∧ nN h ≤ 16 ∧ hI h 313 2 = nI (hdN h) ∧ hdN h ≤ 16 ∧ hI h 300 13 = nI (tN h) ∧ tN h < 3
def SpL (h : CH) : Prop := ∀ i, i < 16 → hI h (313 + 2 + i) 0 = -1 ∨ (hI h (313 + 2 + i) 0 = nI (spN h i) ∧ spN h i < 128)
/-- nothing but the hand and the marks of use since it moved -/
def HandOnly (h g : CH) : Prop := hT g = hT h ∧ hR g = hR h ∧ hJ g = hJ h ∧ (∀ a k, ¬ (a = 313 ∧ k = 2) → ¬ (k = 7 ∧ 313 ≤ a ∧ a < 331) → hI g a k = hI h a k) ∧ ((hI g 313 2 = hI h 313 2) ∨ ∃ j, j < 16 ∧ hI g 313 2 = nI j)
theorem ho_rfl (h : CH) : HandOnly h h := ⟨rfl, rfl, rfl, fun _ _ _ _ => rfl, Or.inl rfl⟩
theorem ho_sweep {n : Nat} {cl aside : Int32} (h0 : 0 < n) (h16 : n ≤ 16) : ∀ (m hd : Nat) (h : CH), HandOnly h (cSweep 313 n cl aside m hd h).1
  | 0, hd, h => ho_rfl h
  | m + 1, hd, h => by
    have b1 : HandOnly h (sI h 313 2 (nI (swNx n hd))) := ⟨rfl, rfl, rfl, fun a k c _ => by rw [hI_sI, if_neg c], Or.inr ⟨_, Nat.lt_of_lt_of_le (swNx_lt h0) h16, by rw [hI_sI, if_pos ⟨rfl, rfl⟩]⟩⟩
    have tr : ∀ g g2 : CH, HandOnly h g → HandOnly g g2 → HandOnly h g2 := fun g g2 a b => ⟨b.1.trans a.1, b.2.1.trans a.2.1, b.2.2.1.trans a.2.2.1, fun x k c d => (b.2.2.2.1 x k c d).trans (a.2.2.2.1 x k c d), b.2.2.2.2.elim (fun e => a.2.2.2.2.elim (fun e2 => Or.inl (e.trans e2)) (fun ⟨j, hj, e2⟩ => Or.inr ⟨j, hj, e.trans e2⟩)) Or.inr⟩
    unfold cSweep
    split
    · split
      · exact b1
      · have hs := swAt_lt (hd := hd) h0
        have b2 : HandOnly (sI h 313 2 (nI (swNx n hd))) (sI (sI h 313 2 (nI (swNx n hd))) (313 + 2 + swAt n hd) 7 0) := ⟨rfl, rfl, rfl, fun a k _ d => by rw [hI_sI, if_neg (fun q => d ⟨q.2, by omega, by omega⟩)], Or.inl (by rw [hI_sI, if_neg (by omega)])⟩
        exact tr _ _ (tr _ _ b1 b2) (ho_sweep h0 h16 m _ _)
    · exact tr _ _ b1 (ho_sweep h0 h16 m _ _)
theorem CanGo_ho {h g : CH} {i : Nat} {cl aside : Int32} (H : HandOnly h g) : CanGo g 313 i cl aside ↔ CanGo h 313 i cl aside := by
  have e : ∀ k, ¬ k = 7 → hI g (313 + 2 + i) k = hI h (313 + 2 + i) k := fun k hk => H.2.2.2.1 _ _ (by omega) (by omega)
  unfold CanGo
  rw [e 0 (by omega), e 2 (by omega), e 9 (by omega), e 3 (by omega)]
theorem cSweep_some {n : Nat} {cl aside : Int32} (h0 : 0 < n) (h16 : n ≤ 16) : ∀ (m hd : Nat) (h : CH) (i : Nat), (cSweep 313 n cl aside m hd h).2 = some i → i < n ∧ CanGo h 313 i cl aside
  | 0, hd, h, i, e => by cases e
  | m + 1, hd, h, i, e => by
    have b1 : HandOnly h (sI h 313 2 (nI (swNx n hd))) := ⟨rfl, rfl, rfl, fun a k c _ => by rw [hI_sI, if_neg c], Or.inr ⟨_, Nat.lt_of_lt_of_le (swNx_lt h0) h16, by rw [hI_sI, if_pos ⟨rfl, rfl⟩]⟩⟩
    have hs := swAt_lt (hd := hd) h0
    have b2 : HandOnly (sI h 313 2 (nI (swNx n hd))) (sI (sI h 313 2 (nI (swNx n hd))) (313 + 2 + swAt n hd) 7 0) := ⟨rfl, rfl, rfl, fun a k _ d => by rw [hI_sI, if_neg (fun q => d ⟨q.2, by omega, by omega⟩)], Or.inl (by rw [hI_sI, if_neg (by omega)])⟩
    unfold cSweep at e
    split at e
    · next c =>
      split at e
      · cases e
        exact ⟨hs, (CanGo_ho b1).mp c⟩
      · have z := cSweep_some h0 h16 m _ _ i e
        exact ⟨z.1, (CanGo_ho b1).mp ((CanGo_ho b2).mp z.2)⟩
    · have z := cSweep_some h0 h16 m _ _ i e
      exact ⟨z.1, (CanGo_ho b1).mp z.2⟩
theorem ho_choose {h : CH} {n hd : Nat} {pol cl aside : Int32} (h0 : 0 < n) (h16 : n ≤ 16) : HandOnly h (cChoose h 313 n hd pol cl aside).1 := by
  unfold cChoose
  split
  · split
    · exact ho_sweep h0 h16 _ _ _
    · exact ho_rfl h
  · exact ho_rfl h
theorem cChoose_some {h : CH} {n hd i : Nat} {pol cl aside : Int32} (h0 : 0 < n) (h16 : n ≤ 16) (e : (cChoose h 313 n hd pol cl aside).2 = some i) : i < n ∧ CanGo h 313 i cl aside := by
  unfold cChoose at e
  split at e
  · split at e
    · exact cSweep_some h0 h16 _ _ _ _ e
    · exact cOld_lt e
  · cases e
theorem Lay_ho {h g : CH} (H : HandOnly h g) (hL : Lay h) : Lay g := by
  unfold Lay DevL FilL PoolL LogL TraL PoolL at hL ⊢
  rw [H.1, H.2.1]
  exact hL
theorem NumL_ho {h g : CH} (H : HandOnly h g) (hN : NumL h) : NumL g := by
  have e1 : hI g 313 1 = hI h 313 1 := H.2.2.2.1 _ _ (by omega) (by omega)
  have e2 : hI g 300 13 = hI h 300 13 := H.2.2.2.1 _ _ (by omega) (by omega)
  have n1 : nN g = nN h := congrArg Int32.toNatClampNeg e1
  have n2 : tN g = tN h := congrArg Int32.toNatClampNeg e2
  obtain ⟨a1, a2, a3, a4, a5, a6, a7⟩ := hN
  refine ⟨by rw [e1, n1]; exact a1, by rw [n1]; exact a2, by rw [n1]; exact a3, ?_, ?_, by rw [e2, n2]; exact a6, by rw [n2]; exact a7⟩
  · rcases H.2.2.2.2 with e | ⟨j, hj, e⟩
    · show _ = nI (hI g 313 2).toNatClampNeg
      rw [e]
      exact a4
    · show _ = nI (hI g 313 2).toNatClampNeg
      rw [e, nI_clamp (by omega)]
  · show (hI g 313 2).toNatClampNeg ≤ 16
    rcases H.2.2.2.2 with e | ⟨j, hj, e⟩
    · rw [e]
      exact a5
    · rw [e, nI_clamp (by omega)]
      omega
theorem SpL_ho {h g : CH} (H : HandOnly h g) (hS : SpL h) : SpL g := fun i hi => by
  have e : hI g (313 + 2 + i) 0 = hI h (313 + 2 + i) 0 := H.2.2.2.1 _ _ (by omega) (by omega)
  unfold spN
  rw [e]
  exact hS i hi
def cTakeF (h : CH) : CH × Option Nat :=
  match lst (frP h 313) (nN h) with
  | some i => (h, some i)
  | none => match (cChoose h 313 (nN h) (hdN h) (hI h 300 10) 0 (-1)).2 with
    | none => ((cChoose h 313 (nN h) (hdN h) (hI h 300 10) 0 (-1)).1, none)
    | some i => let g := (cChoose h 313 (nN h) (hdN h) (hI h 300 10) 0 (-1)).1
      if ¬ hI g (313 + 2 + i) 3 = 0 ∧ Falls g then (cLose (cTick g), none) else (cEv g (tN h) i (spN g i), some i)
theorem ixS (i : Nat) : ixI (some i) = nI i := rfl
theorem ixN : ixI none = -1 := rfl
theorem takeFrame_ok {h : CH} {Q : QT} (hL : Lay h) (hN : NumL h) (hS : SpL h) (k : Q (.inl [.int (ixI (cTakeF h).2)]) (cTakeF h).1) : wX9_takeFrame [.ref 300] h Q := by
  refine wgo (fun X hX => ?_) (by show 1 ≤ 3; decide)
  obtain ⟨l0, l1, l2, l3, l4, l5, l6, l7, l8, l9, l10, l11, l12, l13, l14, l15, l16, l17, l18, l19, l20⟩ := id hL
  obtain ⟨n1, n2, n3, n4, n5, n6, n7⟩ := id hN
  obtain ⟨p1, p2, p3, p4, p5⟩ := id l14
  (refine go mX9_takeFrame hX [] 400 ?_; conv => whnf)
  repeat (first | (refine rs ?_; conv => whnf) | unfold k_call | ((with_reducible refine And.intro ?_ ?_); (first | (first | assumption | rfl | exact True.intro | exact Nat.le_of_ble_eq_true rfl | exact Or.inl rfl | exact Or.inr rfl | exact okv3 (by assumption) | decide | (focus (simp (disch := omega) only [l0, l1, l2, l3, l4, l5, l6, l7, l8, l9, l10, l11, p1, p2, p3, p4, p5, n1, n4, ixS, ixN, nI_clamp, vp_in_nI, hT_sI, hR_sI, hT_sJ, hR_sJ, hT_sR, hI_sJ, hI_sR, hJ_sI, hJ_sR, hI_eq, hI_ne, hI_nk]; done)) | (focus (simp (disch := omega) only [l0, l1, l2, l3, l4, l5, l6, l7, l8, l9, l10, l11, p1, p2, p3, p4, p5, n1, n4, ixS, ixN, nI_clamp, vp_in_nI, hT_sI, hR_sI, hT_sJ, hR_sJ, hT_sR, hI_sJ, hI_sR, hJ_sI, hJ_sR, hI_eq, hI_ne, hI_nk]; first | assumption | exact okv3 (by assumption)))) | (focus (refine ⟨_, rfl, ?_⟩; (first | assumption | rfl | exact True.intro | exact Nat.le_of_ble_eq_true rfl | exact Or.inl rfl | exact Or.inr rfl | exact okv3 (by assumption) | decide | (focus (simp (disch := omega) only [l0, l1, l2, l3, l4, l5, l6, l7, l8, l9, l10, l11, p1, p2, p3, p4, p5, n1, n4, ixS, ixN, nI_clamp, vp_in_nI, hT_sI, hR_sI, hT_sJ, hR_sJ, hT_sR, hI_sJ, hI_sR, hJ_sI, hJ_sR, hI_eq, hI_ne, hI_nk]; done)) | (focus (simp (disch := omega) only [l0, l1, l2, l3, l4, l5, l6, l7, l8, l9, l10, l11, p1, p2, p3, p4, p5, n1, n4, ixS, ixN, nI_clamp, vp_in_nI, hT_sI, hR_sI, hT_sJ, hR_sJ, hT_sR, hI_sJ, hI_sR, hJ_sI, hJ_sR, hI_eq, hI_ne, hI_nk]; first | assumption | exact okv3 (by assumption)))))))))
  (try simp (disch := omega) only [l0, l1, l2, l3, l4, l5, l6, l7, l8, l9, l10, l11, p1, p2, p3, p4, p5, n1, n4, ixS, ixN, nI_clamp, vp_in_nI, hT_sI, hR_sI, hT_sJ, hR_sJ, hT_sR, hI_sJ, hI_sR, hJ_sI, hJ_sR, hI_eq, hI_ne, hI_nk])
  refine lowF_ok l14 n1 n3 ?_
  unfold cTakeF at k
  cases q : lst (frP h 313) (nN h) with
  | some i =>
    rw [q] at k
    have hi := (lst_some q).1
    repeat (first | (refine rs ?_; conv => whnf) | unfold k_call | ((with_reducible refine And.intro ?_ ?_); (first | (first | assumption | rfl | exact True.intro | exact Nat.le_of_ble_eq_true rfl | exact Or.inl rfl | exact Or.inr rfl | exact okv3 (by assumption) | decide | (focus (simp (disch := omega) only [l0, l1, l2, l3, l4, l5, l6, l7, l8, l9, l10, l11, p1, p2, p3, p4, p5, n1, n4, ixS, ixN, nI_clamp, vp_in_nI, hT_sI, hR_sI, hT_sJ, hR_sJ, hT_sR, hI_sJ, hI_sR, hJ_sI, hJ_sR, hI_eq, hI_ne, hI_nk]; done)) | (focus (simp (disch := omega) only [l0, l1, l2, l3, l4, l5, l6, l7, l8, l9, l10, l11, p1, p2, p3, p4, p5, n1, n4, ixS, ixN, nI_clamp, vp_in_nI, hT_sI, hR_sI, hT_sJ, hR_sJ, hT_sR, hI_sJ, hI_sR, hJ_sI, hJ_sR, hI_eq, hI_ne, hI_nk]; first | assumption | exact okv3 (by assumption)))) | (focus (refine ⟨_, rfl, ?_⟩; (first | assumption | rfl | exact True.intro | exact Nat.le_of_ble_eq_true rfl | exact Or.inl rfl | exact Or.inr rfl | exact okv3 (by assumption) | decide | (focus (simp (disch := omega) only [l0, l1, l2, l3, l4, l5, l6, l7, l8, l9, l10, l11, p1, p2, p3, p4, p5, n1, n4, ixS, ixN, nI_clamp, vp_in_nI, hT_sI, hR_sI, hT_sJ, hR_sJ, hT_sR, hI_sJ, hI_sR, hJ_sI, hJ_sR, hI_eq, hI_ne, hI_nk]; done)) | (focus (simp (disch := omega) only [l0, l1, l2, l3, l4, l5, l6, l7, l8, l9, l10, l11, p1, p2, p3, p4, p5, n1, n4, ixS, ixN, nI_clamp, vp_in_nI, hT_sI, hR_sI, hT_sJ, hR_sJ, hT_sR, hI_sJ, hI_sR, hJ_sI, hJ_sR, hI_eq, hI_ne, hI_nk]; first | assumption | exact okv3 (by assumption)))))))))
    refine br_f (nI_pos (by omega)) ?_
    repeat (first | (refine rs ?_; conv => whnf) | unfold k_call | ((with_reducible refine And.intro ?_ ?_); (first | (first | assumption | rfl | exact True.intro | exact Nat.le_of_ble_eq_true rfl | exact Or.inl rfl | exact Or.inr rfl | exact okv3 (by assumption) | decide | (focus (simp (disch := omega) only [l0, l1, l2, l3, l4, l5, l6, l7, l8, l9, l10, l11, p1, p2, p3, p4, p5, n1, n4, ixS, ixN, nI_clamp, vp_in_nI, hT_sI, hR_sI, hT_sJ, hR_sJ, hT_sR, hI_sJ, hI_sR, hJ_sI, hJ_sR, hI_eq, hI_ne, hI_nk]; done)) | (focus (simp (disch := omega) only [l0, l1, l2, l3, l4, l5, l6, l7, l8, l9, l10, l11, p1, p2, p3, p4, p5, n1, n4, ixS, ixN, nI_clamp, vp_in_nI, hT_sI, hR_sI, hT_sJ, hR_sJ, hT_sR, hI_sJ, hI_sR, hJ_sI, hJ_sR, hI_eq, hI_ne, hI_nk]; first | assumption | exact okv3 (by assumption)))) | (focus (refine ⟨_, rfl, ?_⟩; (first | assumption | rfl | exact True.intro | exact Nat.le_of_ble_eq_true rfl | exact Or.inl rfl | exact Or.inr rfl | exact okv3 (by assumption) | decide | (focus (simp (disch := omega) only [l0, l1, l2, l3, l4, l5, l6, l7, l8, l9, l10, l11, p1, p2, p3, p4, p5, n1, n4, ixS, ixN, nI_clamp, vp_in_nI, hT_sI, hR_sI, hT_sJ, hR_sJ, hT_sR, hI_sJ, hI_sR, hJ_sI, hJ_sR, hI_eq, hI_ne, hI_nk]; done)) | (focus (simp (disch := omega) only [l0, l1, l2, l3, l4, l5, l6, l7, l8, l9, l10, l11, p1, p2, p3, p4, p5, n1, n4, ixS, ixN, nI_clamp, vp_in_nI, hT_sI, hR_sI, hT_sJ, hR_sJ, hT_sR, hI_sJ, hI_sR, hJ_sI, hJ_sR, hI_eq, hI_ne, hI_nk]; first | assumption | exact okv3 (by assumption)))))))))
    exact k
  | none =>
    rw [q] at k
    repeat (first | (refine rs ?_; conv => whnf) | unfold k_call | ((with_reducible refine And.intro ?_ ?_); (first | (first | assumption | rfl | exact True.intro | exact Nat.le_of_ble_eq_true rfl | exact Or.inl rfl | exact Or.inr rfl | exact okv3 (by assumption) | decide | (focus (simp (disch := omega) only [l0, l1, l2, l3, l4, l5, l6, l7, l8, l9, l10, l11, p1, p2, p3, p4, p5, n1, n4, ixS, ixN, nI_clamp, vp_in_nI, hT_sI, hR_sI, hT_sJ, hR_sJ, hT_sR, hI_sJ, hI_sR, hJ_sI, hJ_sR, hI_eq, hI_ne, hI_nk]; done)) | (focus (simp (disch := omega) only [l0, l1, l2, l3, l4, l5, l6, l7, l8, l9, l10, l11, p1, p2, p3, p4, p5, n1, n4, ixS, ixN, nI_clamp, vp_in_nI, hT_sI, hR_sI, hT_sJ, hR_sJ, hT_sR, hI_sJ, hI_sR, hJ_sI, hJ_sR, hI_eq, hI_ne, hI_nk]; first | assumption | exact okv3 (by assumption)))) | (focus (refine ⟨_, rfl, ?_⟩; (first | assumption | rfl | exact True.intro | exact Nat.le_of_ble_eq_true rfl | exact Or.inl rfl | exact Or.inr rfl | exact okv3 (by assumption) | decide | (focus (simp (disch := omega) only [l0, l1, l2, l3, l4, l5, l6, l7, l8, l9, l10, l11, p1, p2, p3, p4, p5, n1, n4, ixS, ixN, nI_clamp, vp_in_nI, hT_sI, hR_sI, hT_sJ, hR_sJ, hT_sR, hI_sJ, hI_sR, hJ_sI, hJ_sR, hI_eq, hI_ne, hI_nk]; done)) | (focus (simp (disch := omega) only [l0, l1, l2, l3, l4, l5, l6, l7, l8, l9, l10, l11, p1, p2, p3, p4, p5, n1, n4, ixS, ixN, nI_clamp, vp_in_nI, hT_sI, hR_sI, hT_sJ, hR_sJ, hT_sR, hI_sJ, hI_sR, hJ_sI, hJ_sR, hI_eq, hI_ne, hI_nk]; first | assumption | exact okv3 (by assumption)))))))))
    refine br_t (by decide) ?_
    repeat (first | (refine rs ?_; conv => whnf) | unfold k_call | ((with_reducible refine And.intro ?_ ?_); (first | (first | assumption | rfl | exact True.intro | exact Nat.le_of_ble_eq_true rfl | exact Or.inl rfl | exact Or.inr rfl | exact okv3 (by assumption) | decide | (focus (simp (disch := omega) only [l0, l1, l2, l3, l4, l5, l6, l7, l8, l9, l10, l11, p1, p2, p3, p4, p5, n1, n4, ixS, ixN, nI_clamp, vp_in_nI, hT_sI, hR_sI, hT_sJ, hR_sJ, hT_sR, hI_sJ, hI_sR, hJ_sI, hJ_sR, hI_eq, hI_ne, hI_nk]; done)) | (focus (simp (disch := omega) only [l0, l1, l2, l3, l4, l5, l6, l7, l8, l9, l10, l11, p1, p2, p3, p4, p5, n1, n4, ixS, ixN, nI_clamp, vp_in_nI, hT_sI, hR_sI, hT_sJ, hR_sJ, hT_sR, hI_sJ, hI_sR, hJ_sI, hJ_sR, hI_eq, hI_ne, hI_nk]; first | assumption | exact okv3 (by assumption)))) | (focus (refine ⟨_, rfl, ?_⟩; (first | assumption | rfl | exact True.intro | exact Nat.le_of_ble_eq_true rfl | exact Or.inl rfl | exact Or.inr rfl | exact okv3 (by assumption) | decide | (focus (simp (disch := omega) only [l0, l1, l2, l3, l4, l5, l6, l7, l8, l9, l10, l11, p1, p2, p3, p4, p5, n1, n4, ixS, ixN, nI_clamp, vp_in_nI, hT_sI, hR_sI, hT_sJ, hR_sJ, hT_sR, hI_sJ, hI_sR, hJ_sI, hJ_sR, hI_eq, hI_ne, hI_nk]; done)) | (focus (simp (disch := omega) only [l0, l1, l2, l3, l4, l5, l6, l7, l8, l9, l10, l11, p1, p2, p3, p4, p5, n1, n4, ixS, ixN, nI_clamp, vp_in_nI, hT_sI, hR_sI, hT_sJ, hR_sJ, hT_sR, hI_sJ, hI_sR, hJ_sI, hJ_sR, hI_eq, hI_ne, hI_nk]; first | assumption | exact okv3 (by assumption)))))))))
    (try simp (disch := omega) only [l0, l1, l2, l3, l4, l5, l6, l7, l8, l9, l10, l11, p1, p2, p3, p4, p5, n1, n4, ixS, ixN, nI_clamp, vp_in_nI, hT_sI, hR_sI, hT_sJ, hR_sJ, hT_sR, hI_sJ, hI_sR, hJ_sI, hJ_sR, hI_eq, hI_ne, hI_nk])
    refine choose_ok l14 n1 n3 n4 n5 ?_
    have H := ho_choose (h := h) (n := nN h) (hd := hdN h) (pol := hI h 300 10) (cl := 0) (aside := -1) n2 n3
    have hs := fun i => cChoose_some (h := h) (n := nN h) (hd := hdN h) (i := i) (pol := hI h 300 10) (cl := 0) (aside := -1) n2 n3
    generalize cChoose h 313 (nN h) (hdN h) (hI h 300 10) 0 (-1) = go at k H hs ⊢
    obtain ⟨g, o⟩ := go
    have hL2 : Lay g := Lay_ho H hL
    have hN2 : NumL g := NumL_ho H hN
    have hS2 : SpL g := SpL_ho H hS
    have et : tN h = tN g := congrArg Int32.toNatClampNeg (H.2.2.2.1 300 13 (by omega) (by omega)).symm
    rw [et] at k
    cases o with
    | none =>
      repeat (first | (refine rs ?_; conv => whnf) | unfold k_call | ((with_reducible refine And.intro ?_ ?_); (first | (first | assumption | rfl | exact True.intro | exact Nat.le_of_ble_eq_true rfl | exact Or.inl rfl | exact Or.inr rfl | exact okv3 (by assumption) | decide | (focus (simp (disch := omega) only [l0, l1, l2, l3, l4, l5, l6, l7, l8, l9, l10, l11, p1, p2, p3, p4, p5, n1, n4, ixS, ixN, nI_clamp, vp_in_nI, hT_sI, hR_sI, hT_sJ, hR_sJ, hT_sR, hI_sJ, hI_sR, hJ_sI, hJ_sR, hI_eq, hI_ne, hI_nk]; done)) | (focus (simp (disch := omega) only [l0, l1, l2, l3, l4, l5, l6, l7, l8, l9, l10, l11, p1, p2, p3, p4, p5, n1, n4, ixS, ixN, nI_clamp, vp_in_nI, hT_sI, hR_sI, hT_sJ, hR_sJ, hT_sR, hI_sJ, hI_sR, hJ_sI, hJ_sR, hI_eq, hI_ne, hI_nk]; first | assumption | exact okv3 (by assumption)))) | (focus (refine ⟨_, rfl, ?_⟩; (first | assumption | rfl | exact True.intro | exact Nat.le_of_ble_eq_true rfl | exact Or.inl rfl | exact Or.inr rfl | exact okv3 (by assumption) | decide | (focus (simp (disch := omega) only [l0, l1, l2, l3, l4, l5, l6, l7, l8, l9, l10, l11, p1, p2, p3, p4, p5, n1, n4, ixS, ixN, nI_clamp, vp_in_nI, hT_sI, hR_sI, hT_sJ, hR_sJ, hT_sR, hI_sJ, hI_sR, hJ_sI, hJ_sR, hI_eq, hI_ne, hI_nk]; done)) | (focus (simp (disch := omega) only [l0, l1, l2, l3, l4, l5, l6, l7, l8, l9, l10, l11, p1, p2, p3, p4, p5, n1, n4, ixS, ixN, nI_clamp, vp_in_nI, hT_sI, hR_sI, hT_sJ, hR_sJ, hT_sR, hI_sJ, hI_sR, hJ_sI, hJ_sR, hI_eq, hI_ne, hI_nk]; first | assumption | exact okv3 (by assumption)))))))))
      refine br_t (show (-1 : Int32) < 0 by decide) ?_
      repeat (first | (refine rs ?_; conv => whnf) | unfold k_call | ((with_reducible refine And.intro ?_ ?_); (first | (first | assumption | rfl | exact True.intro | exact Nat.le_of_ble_eq_true rfl | exact Or.inl rfl | exact Or.inr rfl | exact okv3 (by assumption) | decide | (focus (simp (disch := omega) only [l0, l1, l2, l3, l4, l5, l6, l7, l8, l9, l10, l11, p1, p2, p3, p4, p5, n1, n4, ixS, ixN, nI_clamp, vp_in_nI, hT_sI, hR_sI, hT_sJ, hR_sJ, hT_sR, hI_sJ, hI_sR, hJ_sI, hJ_sR, hI_eq, hI_ne, hI_nk]; done)) | (focus (simp (disch := omega) only [l0, l1, l2, l3, l4, l5, l6, l7, l8, l9, l10, l11, p1, p2, p3, p4, p5, n1, n4, ixS, ixN, nI_clamp, vp_in_nI, hT_sI, hR_sI, hT_sJ, hR_sJ, hT_sR, hI_sJ, hI_sR, hJ_sI, hJ_sR, hI_eq, hI_ne, hI_nk]; first | assumption | exact okv3 (by assumption)))) | (focus (refine ⟨_, rfl, ?_⟩; (first | assumption | rfl | exact True.intro | exact Nat.le_of_ble_eq_true rfl | exact Or.inl rfl | exact Or.inr rfl | exact okv3 (by assumption) | decide | (focus (simp (disch := omega) only [l0, l1, l2, l3, l4, l5, l6, l7, l8, l9, l10, l11, p1, p2, p3, p4, p5, n1, n4, ixS, ixN, nI_clamp, vp_in_nI, hT_sI, hR_sI, hT_sJ, hR_sJ, hT_sR, hI_sJ, hI_sR, hJ_sI, hJ_sR, hI_eq, hI_ne, hI_nk]; done)) | (focus (simp (disch := omega) only [l0, l1, l2, l3, l4, l5, l6, l7, l8, l9, l10, l11, p1, p2, p3, p4, p5, n1, n4, ixS, ixN, nI_clamp, vp_in_nI, hT_sI, hR_sI, hT_sJ, hR_sJ, hT_sR, hI_sJ, hI_sR, hJ_sI, hJ_sR, hI_eq, hI_ne, hI_nk]; first | assumption | exact okv3 (by assumption)))))))))
      exact k
    | some i =>
      have hi := (hs i rfl).1
      obtain ⟨l0, l1, l2, l3, l4, l5, l6, l7, l8, l9, l10, l11, l12, l13, l14, l15, l16, l17, l18, l19, l20⟩ := id hL2
      obtain ⟨p1, p2, p3, p4, p5⟩ := id l14
      repeat (first | (refine rs ?_; conv => whnf) | unfold k_call | ((with_reducible refine And.intro ?_ ?_); (first | (first | assumption | rfl | exact True.intro | exact Nat.le_of_ble_eq_true rfl | exact Or.inl rfl | exact Or.inr rfl | exact okv3 (by assumption) | decide | (focus (simp (disch := omega) only [l0, l1, l2, l3, l4, l5, l6, l7, l8, l9, l10, l11, p1, p2, p3, p4, p5, n1, n4, ixS, ixN, nI_clamp, vp_in_nI, hT_sI, hR_sI, hT_sJ, hR_sJ, hT_sR, hI_sJ, hI_sR, hJ_sI, hJ_sR, hI_eq, hI_ne, hI_nk]; done)) | (focus (simp (disch := omega) only [l0, l1, l2, l3, l4, l5, l6, l7, l8, l9, l10, l11, p1, p2, p3, p4, p5, n1, n4, ixS, ixN, nI_clamp, vp_in_nI, hT_sI, hR_sI, hT_sJ, hR_sJ, hT_sR, hI_sJ, hI_sR, hJ_sI, hJ_sR, hI_eq, hI_ne, hI_nk]; first | assumption | exact okv3 (by assumption)))) | (focus (refine ⟨_, rfl, ?_⟩; (first | assumption | rfl | exact True.intro | exact Nat.le_of_ble_eq_true rfl | exact Or.inl rfl | exact Or.inr rfl | exact okv3 (by assumption) | decide | (focus (simp (disch := omega) only [l0, l1, l2, l3, l4, l5, l6, l7, l8, l9, l10, l11, p1, p2, p3, p4, p5, n1, n4, ixS, ixN, nI_clamp, vp_in_nI, hT_sI, hR_sI, hT_sJ, hR_sJ, hT_sR, hI_sJ, hI_sR, hJ_sI, hJ_sR, hI_eq, hI_ne, hI_nk]; done)) | (focus (simp (disch := omega) only [l0, l1, l2, l3, l4, l5, l6, l7, l8, l9, l10, l11, p1, p2, p3, p4, p5, n1, n4, ixS, ixN, nI_clamp, vp_in_nI, hT_sI, hR_sI, hT_sJ, hR_sJ, hT_sR, hI_sJ, hI_sR, hJ_sI, hJ_sR, hI_eq, hI_ne, hI_nk]; first | assumption | exact okv3 (by assumption)))))))))
      refine br_f (nI_pos (by omega)) ?_
      repeat (first | (refine rs ?_; conv => whnf) | unfold k_call | ((with_reducible refine And.intro ?_ ?_); (first | (first | assumption | rfl | exact True.intro | exact Nat.le_of_ble_eq_true rfl | exact Or.inl rfl | exact Or.inr rfl | exact okv3 (by assumption) | decide | (focus (simp (disch := omega) only [l0, l1, l2, l3, l4, l5, l6, l7, l8, l9, l10, l11, p1, p2, p3, p4, p5, n1, n4, ixS, ixN, nI_clamp, vp_in_nI, hT_sI, hR_sI, hT_sJ, hR_sJ, hT_sR, hI_sJ, hI_sR, hJ_sI, hJ_sR, hI_eq, hI_ne, hI_nk]; done)) | (focus (simp (disch := omega) only [l0, l1, l2, l3, l4, l5, l6, l7, l8, l9, l10, l11, p1, p2, p3, p4, p5, n1, n4, ixS, ixN, nI_clamp, vp_in_nI, hT_sI, hR_sI, hT_sJ, hR_sJ, hT_sR, hI_sJ, hI_sR, hJ_sI, hJ_sR, hI_eq, hI_ne, hI_nk]; first | assumption | exact okv3 (by assumption)))) | (focus (refine ⟨_, rfl, ?_⟩; (first | assumption | rfl | exact True.intro | exact Nat.le_of_ble_eq_true rfl | exact Or.inl rfl | exact Or.inr rfl | exact okv3 (by assumption) | decide | (focus (simp (disch := omega) only [l0, l1, l2, l3, l4, l5, l6, l7, l8, l9, l10, l11, p1, p2, p3, p4, p5, n1, n4, ixS, ixN, nI_clamp, vp_in_nI, hT_sI, hR_sI, hT_sJ, hR_sJ, hT_sR, hI_sJ, hI_sR, hJ_sI, hJ_sR, hI_eq, hI_ne, hI_nk]; done)) | (focus (simp (disch := omega) only [l0, l1, l2, l3, l4, l5, l6, l7, l8, l9, l10, l11, p1, p2, p3, p4, p5, n1, n4, ixS, ixN, nI_clamp, vp_in_nI, hT_sI, hR_sI, hT_sJ, hR_sJ, hT_sR, hI_sJ, hI_sR, hJ_sI, hJ_sR, hI_eq, hI_ne, hI_nk]; first | assumption | exact okv3 (by assumption)))))))))
      (try simp (disch := omega) only [l0, l1, l2, l3, l4, l5, l6, l7, l8, l9, l10, l11, p1, p2, p3, p4, p5, n1, n4, ixS, ixN, nI_clamp, vp_in_nI, hT_sI, hR_sI, hT_sJ, hR_sJ, hT_sR, hI_sJ, hI_sR, hJ_sI, hJ_sR, hI_eq, hI_ne, hI_nk])
      have hsp := hS2 i (by omega)
      dsimp only at k
      refine evict_ok (t := tN g) (i := i) hL2 (by omega) (fun _ => ?_) hN2.2.2.2.2.2.1 hN2.2.2.2.2.2.2 (fun sp q => ?_) (fun c q => ?_)
      · rcases hsp with e | e
        · exact absurd ((CanGo_ho H).mpr (hs i rfl).2).1 (by rw [e]; decide)
        · exact ⟨_, e.2, e.1⟩
      · by_cases c : hI g (313 + 2 + i) 3 = 0
        · rw [if_neg (fun w => w.1 c)] at k
          have e : cEv g (tN g) i sp = cEv g (tN g) i (spN g i) := by unfold cEv; rw [if_pos c, if_pos c]
          rw [e]
          repeat (first | (refine rs ?_; conv => whnf) | unfold k_call | ((with_reducible refine And.intro ?_ ?_); (first | (first | assumption | rfl | exact True.intro | exact Nat.le_of_ble_eq_true rfl | exact Or.inl rfl | exact Or.inr rfl | exact okv3 (by assumption) | decide | (focus (simp (disch := omega) only [l0, l1, l2, l3, l4, l5, l6, l7, l8, l9, l10, l11, p1, p2, p3, p4, p5, n1, n4, ixS, ixN, nI_clamp, vp_in_nI, hT_sI, hR_sI, hT_sJ, hR_sJ, hT_sR, hI_sJ, hI_sR, hJ_sI, hJ_sR, hI_eq, hI_ne, hI_nk]; done)) | (focus (simp (disch := omega) only [l0, l1, l2, l3, l4, l5, l6, l7, l8, l9, l10, l11, p1, p2, p3, p4, p5, n1, n4, ixS, ixN, nI_clamp, vp_in_nI, hT_sI, hR_sI, hT_sJ, hR_sJ, hT_sR, hI_sJ, hI_sR, hJ_sI, hJ_sR, hI_eq, hI_ne, hI_nk]; first | assumption | exact okv3 (by assumption)))) | (focus (refine ⟨_, rfl, ?_⟩; (first | assumption | rfl | exact True.intro | exact Nat.le_of_ble_eq_true rfl | exact Or.inl rfl | exact Or.inr rfl | exact okv3 (by assumption) | decide | (focus (simp (disch := omega) only [l0, l1, l2, l3, l4, l5, l6, l7, l8, l9, l10, l11, p1, p2, p3, p4, p5, n1, n4, ixS, ixN, nI_clamp, vp_in_nI, hT_sI, hR_sI, hT_sJ, hR_sJ, hT_sR, hI_sJ, hI_sR, hJ_sI, hJ_sR, hI_eq, hI_ne, hI_nk]; done)) | (focus (simp (disch := omega) only [l0, l1, l2, l3, l4, l5, l6, l7, l8, l9, l10, l11, p1, p2, p3, p4, p5, n1, n4, ixS, ixN, nI_clamp, vp_in_nI, hT_sI, hR_sI, hT_sJ, hR_sJ, hT_sR, hI_sJ, hI_sR, hJ_sI, hJ_sR, hI_eq, hI_ne, hI_nk]; first | assumption | exact okv3 (by assumption)))))))))
          refine br_f (by decide) ?_
          repeat (first | (refine rs ?_; conv => whnf) | unfold k_call | ((with_reducible refine And.intro ?_ ?_); (first | (first | assumption | rfl | exact True.intro | exact Nat.le_of_ble_eq_true rfl | exact Or.inl rfl | exact Or.inr rfl | exact okv3 (by assumption) | decide | (focus (simp (disch := omega) only [l0, l1, l2, l3, l4, l5, l6, l7, l8, l9, l10, l11, p1, p2, p3, p4, p5, n1, n4, ixS, ixN, nI_clamp, vp_in_nI, hT_sI, hR_sI, hT_sJ, hR_sJ, hT_sR, hI_sJ, hI_sR, hJ_sI, hJ_sR, hI_eq, hI_ne, hI_nk]; done)) | (focus (simp (disch := omega) only [l0, l1, l2, l3, l4, l5, l6, l7, l8, l9, l10, l11, p1, p2, p3, p4, p5, n1, n4, ixS, ixN, nI_clamp, vp_in_nI, hT_sI, hR_sI, hT_sJ, hR_sJ, hT_sR, hI_sJ, hI_sR, hJ_sI, hJ_sR, hI_eq, hI_ne, hI_nk]; first | assumption | exact okv3 (by assumption)))) | (focus (refine ⟨_, rfl, ?_⟩; (first | assumption | rfl | exact True.intro | exact Nat.le_of_ble_eq_true rfl | exact Or.inl rfl | exact Or.inr rfl | exact okv3 (by assumption) | decide | (focus (simp (disch := omega) only [l0, l1, l2, l3, l4, l5, l6, l7, l8, l9, l10, l11, p1, p2, p3, p4, p5, n1, n4, ixS, ixN, nI_clamp, vp_in_nI, hT_sI, hR_sI, hT_sJ, hR_sJ, hT_sR, hI_sJ, hI_sR, hJ_sI, hJ_sR, hI_eq, hI_ne, hI_nk]; done)) | (focus (simp (disch := omega) only [l0, l1, l2, l3, l4, l5, l6, l7, l8, l9, l10, l11, p1, p2, p3, p4, p5, n1, n4, ixS, ixN, nI_clamp, vp_in_nI, hT_sI, hR_sI, hT_sJ, hR_sJ, hT_sR, hI_sJ, hI_sR, hJ_sI, hJ_sR, hI_eq, hI_ne, hI_nk]; first | assumption | exact okv3 (by assumption)))))))))
          exact k
        · rw [if_neg (fun w => (q c).1 w.2)] at k
          have e : sp = spN g i := by
            have z : spN g i = (nI sp).toNatClampNeg := congrArg Int32.toNatClampNeg (q c).2.2
            rw [z, nI_clamp (by have := (q c).2.1; omega)]
          rw [e]
          repeat (first | (refine rs ?_; conv => whnf) | unfold k_call | ((with_reducible refine And.intro ?_ ?_); (first | (first | assumption | rfl | exact True.intro | exact Nat.le_of_ble_eq_true rfl | exact Or.inl rfl | exact Or.inr rfl | exact okv3 (by assumption) | decide | (focus (simp (disch := omega) only [l0, l1, l2, l3, l4, l5, l6, l7, l8, l9, l10, l11, p1, p2, p3, p4, p5, n1, n4, ixS, ixN, nI_clamp, vp_in_nI, hT_sI, hR_sI, hT_sJ, hR_sJ, hT_sR, hI_sJ, hI_sR, hJ_sI, hJ_sR, hI_eq, hI_ne, hI_nk]; done)) | (focus (simp (disch := omega) only [l0, l1, l2, l3, l4, l5, l6, l7, l8, l9, l10, l11, p1, p2, p3, p4, p5, n1, n4, ixS, ixN, nI_clamp, vp_in_nI, hT_sI, hR_sI, hT_sJ, hR_sJ, hT_sR, hI_sJ, hI_sR, hJ_sI, hJ_sR, hI_eq, hI_ne, hI_nk]; first | assumption | exact okv3 (by assumption)))) | (focus (refine ⟨_, rfl, ?_⟩; (first | assumption | rfl | exact True.intro | exact Nat.le_of_ble_eq_true rfl | exact Or.inl rfl | exact Or.inr rfl | exact okv3 (by assumption) | decide | (focus (simp (disch := omega) only [l0, l1, l2, l3, l4, l5, l6, l7, l8, l9, l10, l11, p1, p2, p3, p4, p5, n1, n4, ixS, ixN, nI_clamp, vp_in_nI, hT_sI, hR_sI, hT_sJ, hR_sJ, hT_sR, hI_sJ, hI_sR, hJ_sI, hJ_sR, hI_eq, hI_ne, hI_nk]; done)) | (focus (simp (disch := omega) only [l0, l1, l2, l3, l4, l5, l6, l7, l8, l9, l10, l11, p1, p2, p3, p4, p5, n1, n4, ixS, ixN, nI_clamp, vp_in_nI, hT_sI, hR_sI, hT_sJ, hR_sJ, hT_sR, hI_sJ, hI_sR, hJ_sI, hJ_sR, hI_eq, hI_ne, hI_nk]; first | assumption | exact okv3 (by assumption)))))))))
          refine br_f (by decide) ?_
          repeat (first | (refine rs ?_; conv => whnf) | unfold k_call | ((with_reducible refine And.intro ?_ ?_); (first | (first | assumption | rfl | exact True.intro | exact Nat.le_of_ble_eq_true rfl | exact Or.inl rfl | exact Or.inr rfl | exact okv3 (by assumption) | decide | (focus (simp (disch := omega) only [l0, l1, l2, l3, l4, l5, l6, l7, l8, l9, l10, l11, p1, p2, p3, p4, p5, n1, n4, ixS, ixN, nI_clamp, vp_in_nI, hT_sI, hR_sI, hT_sJ, hR_sJ, hT_sR, hI_sJ, hI_sR, hJ_sI, hJ_sR, hI_eq, hI_ne, hI_nk]; done)) | (focus (simp (disch := omega) only [l0, l1, l2, l3, l4, l5, l6, l7, l8, l9, l10, l11, p1, p2, p3, p4, p5, n1, n4, ixS, ixN, nI_clamp, vp_in_nI, hT_sI, hR_sI, hT_sJ, hR_sJ, hT_sR, hI_sJ, hI_sR, hJ_sI, hJ_sR, hI_eq, hI_ne, hI_nk]; first | assumption | exact okv3 (by assumption)))) | (focus (refine ⟨_, rfl, ?_⟩; (first | assumption | rfl | exact True.intro | exact Nat.le_of_ble_eq_true rfl | exact Or.inl rfl | exact Or.inr rfl | exact okv3 (by assumption) | decide | (focus (simp (disch := omega) only [l0, l1, l2, l3, l4, l5, l6, l7, l8, l9, l10, l11, p1, p2, p3, p4, p5, n1, n4, ixS, ixN, nI_clamp, vp_in_nI, hT_sI, hR_sI, hT_sJ, hR_sJ, hT_sR, hI_sJ, hI_sR, hJ_sI, hJ_sR, hI_eq, hI_ne, hI_nk]; done)) | (focus (simp (disch := omega) only [l0, l1, l2, l3, l4, l5, l6, l7, l8, l9, l10, l11, p1, p2, p3, p4, p5, n1, n4, ixS, ixN, nI_clamp, vp_in_nI, hT_sI, hR_sI, hT_sJ, hR_sJ, hT_sR, hI_sJ, hI_sR, hJ_sI, hJ_sR, hI_eq, hI_ne, hI_nk]; first | assumption | exact okv3 (by assumption)))))))))
          exact k
      · rw [if_pos ⟨c, q⟩] at k
        repeat (first | (refine rs ?_; conv => whnf) | unfold k_call | ((with_reducible refine And.intro ?_ ?_); (first | (first | assumption | rfl | exact True.intro | exact Nat.le_of_ble_eq_true rfl | exact Or.inl rfl | exact Or.inr rfl | exact okv3 (by assumption) | decide | (focus (simp (disch := omega) only [l0, l1, l2, l3, l4, l5, l6, l7, l8, l9, l10, l11, p1, p2, p3, p4, p5, n1, n4, ixS, ixN, nI_clamp, vp_in_nI, hT_sI, hR_sI, hT_sJ, hR_sJ, hT_sR, hI_sJ, hI_sR, hJ_sI, hJ_sR, hI_eq, hI_ne, hI_nk]; done)) | (focus (simp (disch := omega) only [l0, l1, l2, l3, l4, l5, l6, l7, l8, l9, l10, l11, p1, p2, p3, p4, p5, n1, n4, ixS, ixN, nI_clamp, vp_in_nI, hT_sI, hR_sI, hT_sJ, hR_sJ, hT_sR, hI_sJ, hI_sR, hJ_sI, hJ_sR, hI_eq, hI_ne, hI_nk]; first | assumption | exact okv3 (by assumption)))) | (focus (refine ⟨_, rfl, ?_⟩; (first | assumption | rfl | exact True.intro | exact Nat.le_of_ble_eq_true rfl | exact Or.inl rfl | exact Or.inr rfl | exact okv3 (by assumption) | decide | (focus (simp (disch := omega) only [l0, l1, l2, l3, l4, l5, l6, l7, l8, l9, l10, l11, p1, p2, p3, p4, p5, n1, n4, ixS, ixN, nI_clamp, vp_in_nI, hT_sI, hR_sI, hT_sJ, hR_sJ, hT_sR, hI_sJ, hI_sR, hJ_sI, hJ_sR, hI_eq, hI_ne, hI_nk]; done)) | (focus (simp (disch := omega) only [l0, l1, l2, l3, l4, l5, l6, l7, l8, l9, l10, l11, p1, p2, p3, p4, p5, n1, n4, ixS, ixN, nI_clamp, vp_in_nI, hT_sI, hR_sI, hT_sJ, hR_sJ, hT_sR, hI_sJ, hI_sR, hJ_sI, hJ_sR, hI_eq, hI_ne, hI_nk]; first | assumption | exact okv3 (by assumption)))))))))
        refine br_t rfl ?_
        repeat (first | (refine rs ?_; conv => whnf) | unfold k_call | ((with_reducible refine And.intro ?_ ?_); (first | (first | assumption | rfl | exact True.intro | exact Nat.le_of_ble_eq_true rfl | exact Or.inl rfl | exact Or.inr rfl | exact okv3 (by assumption) | decide | (focus (simp (disch := omega) only [l0, l1, l2, l3, l4, l5, l6, l7, l8, l9, l10, l11, p1, p2, p3, p4, p5, n1, n4, ixS, ixN, nI_clamp, vp_in_nI, hT_sI, hR_sI, hT_sJ, hR_sJ, hT_sR, hI_sJ, hI_sR, hJ_sI, hJ_sR, hI_eq, hI_ne, hI_nk]; done)) | (focus (simp (disch := omega) only [l0, l1, l2, l3, l4, l5, l6, l7, l8, l9, l10, l11, p1, p2, p3, p4, p5, n1, n4, ixS, ixN, nI_clamp, vp_in_nI, hT_sI, hR_sI, hT_sJ, hR_sJ, hT_sR, hI_sJ, hI_sR, hJ_sI, hJ_sR, hI_eq, hI_ne, hI_nk]; first | assumption | exact okv3 (by assumption)))) | (focus (refine ⟨_, rfl, ?_⟩; (first | assumption | rfl | exact True.intro | exact Nat.le_of_ble_eq_true rfl | exact Or.inl rfl | exact Or.inr rfl | exact okv3 (by assumption) | decide | (focus (simp (disch := omega) only [l0, l1, l2, l3, l4, l5, l6, l7, l8, l9, l10, l11, p1, p2, p3, p4, p5, n1, n4, ixS, ixN, nI_clamp, vp_in_nI, hT_sI, hR_sI, hT_sJ, hR_sJ, hT_sR, hI_sJ, hI_sR, hJ_sI, hJ_sR, hI_eq, hI_ne, hI_nk]; done)) | (focus (simp (disch := omega) only [l0, l1, l2, l3, l4, l5, l6, l7, l8, l9, l10, l11, p1, p2, p3, p4, p5, n1, n4, ixS, ixN, nI_clamp, vp_in_nI, hT_sI, hR_sI, hT_sJ, hR_sJ, hT_sR, hI_sJ, hI_sR, hJ_sI, hJ_sR, hI_eq, hI_ne, hI_nk]; first | assumption | exact okv3 (by assumption)))))))))
        exact k
