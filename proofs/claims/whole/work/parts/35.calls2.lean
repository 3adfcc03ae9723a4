/-! THE METHODS THAT THE SCRIPT CALLS: frames set, syncs, power on, damage -/
def cEvF (h : CH) (i : Nat) : CH × Bool := if ¬ hI h (313 + 2 + i) 3 = 0 ∧ Falls h then (cLose (cTick h), false) else (cEv h (tN h) i (spN h i), true)
theorem House_evF {h : CH} {i : Nat} (hH : House h) (hi : i < 16) : House (cEvF h i).1 := by
  have hs : ¬ hI h (313 + 2 + i) 3 = 0 → spN h i < 128 := fun q => (House_sp hH hi (Or.inl q)).2
  unfold cEvF
  split
  · exact House_lose (House_tick hH)
  · exact ⟨Hse_ev hi hs hH.1, Hol_ev hs hH.2⟩
theorem evictF_ok {h : CH} {i : Nat} {Q : QT} (hH : House h) (hi : i < 16) (k : Q (.inl [.int (bI1 (cEvF h i).2)]) (cEvF h i).1) : wX9_evict [.ref 300, .ref (313 + 2 + i)] h Q := by
  have hN := Hse_num hH.1
  unfold cEvF at k
  refine evict_ok (t := tN h) (i := i) hH.1.1 hi (fun q => ⟨_, (House_sp hH hi (Or.inl q)).2, (House_sp hH hi (Or.inl q)).1⟩) hN.2.2.2.2.2.1 hN.2.2.2.2.2.2 (fun sp q => ?_) (fun c q => ?_)
  · by_cases c : hI h (313 + 2 + i) 3 = 0
    · rw [if_neg (fun w => w.1 c)] at k
      have e : cEv h (tN h) i sp = cEv h (tN h) i (spN h i) := by unfold cEv; rw [if_pos c, if_pos c]
      rw [e]
      exact k
    · rw [if_neg (fun w => (q c).1 w.2)] at k
      have e : sp = spN h i := by
        have z : spN h i = (nI sp).toNatClampNeg := congrArg Int32.toNatClampNeg (q c).2.2
        rw [z, nI_clamp (by have := (q c).2.1; omega)]
      rw [e]
      exact k
  · rw [if_pos ⟨c, q⟩] at k
    exact k
theorem nI_dec (n : Nat) : nI (n + 1) + (-1) = nI n := by rw [← nI_pred n, Int32.sub_eq_add_neg]
def cSF (f : Nat) : Nat → CH → CH × Bool
  | 0, h => (h, true)
  | m + 1, h => if (cEvF h (f + m)).2 then cSF f m (cEvF h (f + m)).1 else ((cEvF h (f + m)).1, false)
theorem House_SF {f : Nat} : ∀ (m : Nat) (h : CH), f + m ≤ 16 → House h → House (cSF f m h).1
  | 0, h, _, hH => hH
  | m + 1, h, hm, hH => by
    unfold cSF
    have hE := House_evF (i := f + m) hH (by omega)
    split
    · exact House_SF m _ (by omega) hE
    · exact hE
abbrev FastBehind (h : CH) (f : Nat) : Prop := ∃ i, i < nN h ∧ (f ≤ i ∧ (0 < hI h (313 + 2 + i) 2 ∨ ¬ hI h (313 + 2 + i) 9 = 0))
def cSetFrames (h : CH) (x : Int32) : Out :=
  if x < 1 ∨ 16 < x then (h, .inr "java/lang/IllegalArgumentException") else
  if hI h 300 14 = 0 then (h, .inr "java/lang/UnsupportedOperationException") else
  if FastBehind h x.toNatClampNeg then (h, .inr "java/lang/IllegalStateException") else
  if (cSF x.toNatClampNeg (nN h - x.toNatClampNeg) h).2 then (cResize (cSF x.toNatClampNeg (nN h - x.toNatClampNeg) h).1 313 x, .inl [.int (hI (cSF x.toNatClampNeg (nN h - x.toNatClampNeg) h).1 313 1)])
  else ((cSF x.toNatClampNeg (nN h - x.toNatClampNeg) h).1, .inl [.int (-1)])
theorem House_setFrames {h : CH} {x : Int32} (hH : House h) : House (cSetFrames h x).1 := by
  unfold cSetFrames
  split
  · exact hH
  · next c =>
    split
    · exact hH
    · split
      · exact hH
      · obtain ⟨f, hf, e⟩ := nI_of2 (x := x) (M := 16) (n := 16) (by decide) (fun q => c (Or.inl (Int32.lt_trans q (by decide)))) (Int32.not_lt.mp (fun q => c (Or.inr q)))
        subst e
        have h1 : 1 ≤ f := by
          by_cases q : f = 0
          · subst q
            exact absurd (Or.inl (by decide)) c
          · omega
        rw [nI_clamp (by omega)]
        have hS := House_SF (f := f) (nN h - f) h (by have := (Hse_num hH.1).2.2.1; omega) hH
        split
        · have w : ∀ g, House g → House (cResize g 313 (nI f)) := fun g hg => by
            have z : House (sI g 313 1 (nI f)) := House_sI hg ⟨fun _ => ⟨f, h1, hf, rfl⟩, fun q => absurd q (by omega), fun q => absurd q (by omega), fun q => absurd q (by omega), fun q => absurd q (by omega), fun q => absurd q (by omega), fun q => absurd q (by omega), fun q => absurd q (by omega)⟩ (by omega)
            unfold cResize
            split
            · exact z
            · exact House_sI z ⟨fun q => absurd q (by omega), fun _ => ⟨0, by omega, rfl⟩, fun q => absurd q (by omega), fun q => absurd q (by omega), fun q => absurd q (by omega), fun q => absurd q (by omega), fun q => absurd q (by omega), fun q => absurd q (by omega)⟩ (by omega)
          exact w _ hS
        · exact hS
theorem setFrames_ok {h : CH} {x : Int32} {Q : QT} (hH : House h) (k : Q (cSetFrames h x).2 (cSetFrames h x).1) : wX9_setFrames [.ref 300, .int x] h Q := by
  refine wgo (fun X hX => ?_) (by show 2 ≤ 3; decide)
  have loop : ∀ (f : Nat), 1 ≤ f → f ≤ 16 → ∀ (m j : Nat) (g : CH), House g → f + m ≤ 16 → (j + 1 = f + m ∨ (m = 0 ∧ j < f)) → (((cSF f m g).2 = true → Q (.inl [.int (hI (cSF f m g).1 313 1)]) (cResize (cSF f m g).1 313 (nI f))) ∧ ((cSF f m g).2 = false → Q (.inl [.int (-1)]) (cSF f m g).1)) → X 42 [.ref 300, .int (nI f), .int (nI j)] [] g 2 12 := by
    intro f h1 hf m
    induction m with
    | zero =>
      intro j g hH hm hj k
      obtain ⟨l0, l1, l2, l3, l4, l5, l6, l7, l8, l9, l10, l11, l12, l13, l14, l15, l16, l17, l18, l19, l20⟩ := id hH.1.1
      obtain ⟨p1, p2, p3, p4, p5⟩ := id l14
      have k := k.1 rfl
      unfold cSF at k
      (refine go mX9_setFrames hX [42] 400 ?_; conv => whnf)
      repeat (first | (refine rs ?_; conv => whnf) | unfold k_call | ((with_reducible refine And.intro ?_ ?_); (first | (first | assumption | rfl | exact True.intro | exact Nat.le_of_ble_eq_true rfl | exact Or.inl rfl | exact Or.inr rfl | exact okv3 (by assumption) | decide | (focus (simp (disch := omega) only [l0, l1, l2, l3, l4, l5, l6, l7, l8, l9, l10, l11, l16, l18, l20, p1, p2, p3, p4, p5, ixS, ixN, nI_clamp, vp_in_nI, hT_sI, hR_sI, hT_sJ, hR_sJ, hT_sR, hI_sJ, hI_sR, hJ_sI, hJ_sR, hI_eq, hI_ne, hI_nk]; done)) | (focus (simp (disch := omega) only [l0, l1, l2, l3, l4, l5, l6, l7, l8, l9, l10, l11, l16, l18, l20, p1, p2, p3, p4, p5, ixS, ixN, nI_clamp, vp_in_nI, hT_sI, hR_sI, hT_sJ, hR_sJ, hT_sR, hI_sJ, hI_sR, hJ_sI, hJ_sR, hI_eq, hI_ne, hI_nk]; first | assumption | exact okv3 (by assumption)))) | (focus (refine ⟨_, rfl, ?_⟩; (first | assumption | rfl | exact True.intro | exact Nat.le_of_ble_eq_true rfl | exact Or.inl rfl | exact Or.inr rfl | exact okv3 (by assumption) | decide | (focus (simp (disch := omega) only [l0, l1, l2, l3, l4, l5, l6, l7, l8, l9, l10, l11, l16, l18, l20, p1, p2, p3, p4, p5, ixS, ixN, nI_clamp, vp_in_nI, hT_sI, hR_sI, hT_sJ, hR_sJ, hT_sR, hI_sJ, hI_sR, hJ_sI, hJ_sR, hI_eq, hI_ne, hI_nk]; done)) | (focus (simp (disch := omega) only [l0, l1, l2, l3, l4, l5, l6, l7, l8, l9, l10, l11, l16, l18, l20, p1, p2, p3, p4, p5, ixS, ixN, nI_clamp, vp_in_nI, hT_sI, hR_sI, hT_sJ, hR_sJ, hT_sR, hI_sJ, hI_sR, hJ_sI, hJ_sR, hI_eq, hI_ne, hI_nk]; first | assumption | exact okv3 (by assumption)))))))))
      refine br_t (nI_lt (a := j) (b := f) (by omega) (by omega)) ?_
      repeat (first | (refine rs ?_; conv => whnf) | unfold k_call | ((with_reducible refine And.intro ?_ ?_); (first | (first | assumption | rfl | exact True.intro | exact Nat.le_of_ble_eq_true rfl | exact Or.inl rfl | exact Or.inr rfl | exact okv3 (by assumption) | decide | (focus (simp (disch := omega) only [l0, l1, l2, l3, l4, l5, l6, l7, l8, l9, l10, l11, l16, l18, l20, p1, p2, p3, p4, p5, ixS, ixN, nI_clamp, vp_in_nI, hT_sI, hR_sI, hT_sJ, hR_sJ, hT_sR, hI_sJ, hI_sR, hJ_sI, hJ_sR, hI_eq, hI_ne, hI_nk]; done)) | (focus (simp (disch := omega) only [l0, l1, l2, l3, l4, l5, l6, l7, l8, l9, l10, l11, l16, l18, l20, p1, p2, p3, p4, p5, ixS, ixN, nI_clamp, vp_in_nI, hT_sI, hR_sI, hT_sJ, hR_sJ, hT_sR, hI_sJ, hI_sR, hJ_sI, hJ_sR, hI_eq, hI_ne, hI_nk]; first | assumption | exact okv3 (by assumption)))) | (focus (refine ⟨_, rfl, ?_⟩; (first | assumption | rfl | exact True.intro | exact Nat.le_of_ble_eq_true rfl | exact Or.inl rfl | exact Or.inr rfl | exact okv3 (by assumption) | decide | (focus (simp (disch := omega) only [l0, l1, l2, l3, l4, l5, l6, l7, l8, l9, l10, l11, l16, l18, l20, p1, p2, p3, p4, p5, ixS, ixN, nI_clamp, vp_in_nI, hT_sI, hR_sI, hT_sJ, hR_sJ, hT_sR, hI_sJ, hI_sR, hJ_sI, hJ_sR, hI_eq, hI_ne, hI_nk]; done)) | (focus (simp (disch := omega) only [l0, l1, l2, l3, l4, l5, l6, l7, l8, l9, l10, l11, l16, l18, l20, p1, p2, p3, p4, p5, ixS, ixN, nI_clamp, vp_in_nI, hT_sI, hR_sI, hT_sJ, hR_sJ, hT_sR, hI_sJ, hI_sR, hJ_sI, hJ_sR, hI_eq, hI_ne, hI_nk]; first | assumption | exact okv3 (by assumption)))))))))
      (try simp (disch := omega) only [l0, l1, l2, l3, l4, l5, l6, l7, l8, l9, l10, l11, l16, l18, l20, p1, p2, p3, p4, p5, ixS, ixN, nI_clamp, vp_in_nI, hT_sI, hR_sI, hT_sJ, hR_sJ, hT_sR, hI_sJ, hI_sR, hJ_sI, hJ_sR, hI_eq, hI_ne, hI_nk])
      refine resize_ok l14 ?_
      repeat (first | (refine rs ?_; conv => whnf) | unfold k_call | ((with_reducible refine And.intro ?_ ?_); (first | (first | assumption | rfl | exact True.intro | exact Nat.le_of_ble_eq_true rfl | exact Or.inl rfl | exact Or.inr rfl | exact okv3 (by assumption) | decide | (focus (simp (disch := omega) only [l0, l1, l2, l3, l4, l5, l6, l7, l8, l9, l10, l11, l16, l18, l20, p1, p2, p3, p4, p5, ixS, ixN, nI_clamp, vp_in_nI, hT_sI, hR_sI, hT_sJ, hR_sJ, hT_sR, hI_sJ, hI_sR, hJ_sI, hJ_sR, hI_eq, hI_ne, hI_nk]; done)) | (focus (simp (disch := omega) only [l0, l1, l2, l3, l4, l5, l6, l7, l8, l9, l10, l11, l16, l18, l20, p1, p2, p3, p4, p5, ixS, ixN, nI_clamp, vp_in_nI, hT_sI, hR_sI, hT_sJ, hR_sJ, hT_sR, hI_sJ, hI_sR, hJ_sI, hJ_sR, hI_eq, hI_ne, hI_nk]; first | assumption | exact okv3 (by assumption)))) | (focus (refine ⟨_, rfl, ?_⟩; (first | assumption | rfl | exact True.intro | exact Nat.le_of_ble_eq_true rfl | exact Or.inl rfl | exact Or.inr rfl | exact okv3 (by assumption) | decide | (focus (simp (disch := omega) only [l0, l1, l2, l3, l4, l5, l6, l7, l8, l9, l10, l11, l16, l18, l20, p1, p2, p3, p4, p5, ixS, ixN, nI_clamp, vp_in_nI, hT_sI, hR_sI, hT_sJ, hR_sJ, hT_sR, hI_sJ, hI_sR, hJ_sI, hJ_sR, hI_eq, hI_ne, hI_nk]; done)) | (focus (simp (disch := omega) only [l0, l1, l2, l3, l4, l5, l6, l7, l8, l9, l10, l11, l16, l18, l20, p1, p2, p3, p4, p5, ixS, ixN, nI_clamp, vp_in_nI, hT_sI, hR_sI, hT_sJ, hR_sJ, hT_sR, hI_sJ, hI_sR, hJ_sI, hJ_sR, hI_eq, hI_ne, hI_nk]; first | assumption | exact okv3 (by assumption)))))))))
      exact k
    | succ m ih =>
      intro j g hH hm hj k
      have ej : j = f + m := by omega
      subst ej
      obtain ⟨l0, l1, l2, l3, l4, l5, l6, l7, l8, l9, l10, l11, l12, l13, l14, l15, l16, l17, l18, l19, l20⟩ := id hH.1.1
      obtain ⟨p1, p2, p3, p4, p5⟩ := id l14
      unfold cSF at k
      (refine go mX9_setFrames hX [42] 400 ?_; conv => whnf)
      repeat (first | (refine rs ?_; conv => whnf) | unfold k_call | ((with_reducible refine And.intro ?_ ?_); (first | (first | assumption | rfl | exact True.intro | exact Nat.le_of_ble_eq_true rfl | exact Or.inl rfl | exact Or.inr rfl | exact okv3 (by assumption) | decide | (focus (simp (disch := omega) only [l0, l1, l2, l3, l4, l5, l6, l7, l8, l9, l10, l11, l16, l18, l20, p1, p2, p3, p4, p5, ixS, ixN, nI_clamp, vp_in_nI, hT_sI, hR_sI, hT_sJ, hR_sJ, hT_sR, hI_sJ, hI_sR, hJ_sI, hJ_sR, hI_eq, hI_ne, hI_nk]; done)) | (focus (simp (disch := omega) only [l0, l1, l2, l3, l4, l5, l6, l7, l8, l9, l10, l11, l16, l18, l20, p1, p2, p3, p4, p5, ixS, ixN, nI_clamp, vp_in_nI, hT_sI, hR_sI, hT_sJ, hR_sJ, hT_sR, hI_sJ, hI_sR, hJ_sI, hJ_sR, hI_eq, hI_ne, hI_nk]; first | assumption | exact okv3 (by assumption)))) | (focus (refine ⟨_, rfl, ?_⟩; (first | assumption | rfl | exact True.intro | exact Nat.le_of_ble_eq_true rfl | exact Or.inl rfl | exact Or.inr rfl | exact okv3 (by assumption) | decide | (focus (simp (disch := omega) only [l0, l1, l2, l3, l4, l5, l6, l7, l8, l9, l10, l11, l16, l18, l20, p1, p2, p3, p4, p5, ixS, ixN, nI_clamp, vp_in_nI, hT_sI, hR_sI, hT_sJ, hR_sJ, hT_sR, hI_sJ, hI_sR, hJ_sI, hJ_sR, hI_eq, hI_ne, hI_nk]; done)) | (focus (simp (disch := omega) only [l0, l1, l2, l3, l4, l5, l6, l7, l8, l9, l10, l11, l16, l18, l20, p1, p2, p3, p4, p5, ixS, ixN, nI_clamp, vp_in_nI, hT_sI, hR_sI, hT_sJ, hR_sJ, hT_sR, hI_sJ, hI_sR, hJ_sI, hJ_sR, hI_eq, hI_ne, hI_nk]; first | assumption | exact okv3 (by assumption)))))))))
      refine br_f (nI_nlt (a := f + m) (b := f) (by omega) (by omega)) ?_
      repeat (first | (refine rs ?_; conv => whnf) | unfold k_call | ((with_reducible refine And.intro ?_ ?_); (first | (first | assumption | rfl | exact True.intro | exact Nat.le_of_ble_eq_true rfl | exact Or.inl rfl | exact Or.inr rfl | exact okv3 (by assumption) | decide | (focus (simp (disch := omega) only [l0, l1, l2, l3, l4, l5, l6, l7, l8, l9, l10, l11, l16, l18, l20, p1, p2, p3, p4, p5, ixS, ixN, nI_clamp, vp_in_nI, hT_sI, hR_sI, hT_sJ, hR_sJ, hT_sR, hI_sJ, hI_sR, hJ_sI, hJ_sR, hI_eq, hI_ne, hI_nk]; done)) | (focus (simp (disch := omega) only [l0, l1, l2, l3, l4, l5, l6, l7, l8, l9, l10, l11, l16, l18, l20, p1, p2, p3, p4, p5, ixS, ixN, nI_clamp, vp_in_nI, hT_sI, hR_sI, hT_sJ, hR_sJ, hT_sR, hI_sJ, hI_sR, hJ_sI, hJ_sR, hI_eq, hI_ne, hI_nk]; first | assumption | exact okv3 (by assumption)))) | (focus (refine ⟨_, rfl, ?_⟩; (first | assumption | rfl | exact True.intro | exact Nat.le_of_ble_eq_true rfl | exact Or.inl rfl | exact Or.inr rfl | exact okv3 (by assumption) | decide | (focus (simp (disch := omega) only [l0, l1, l2, l3, l4, l5, l6, l7, l8, l9, l10, l11, l16, l18, l20, p1, p2, p3, p4, p5, ixS, ixN, nI_clamp, vp_in_nI, hT_sI, hR_sI, hT_sJ, hR_sJ, hT_sR, hI_sJ, hI_sR, hJ_sI, hJ_sR, hI_eq, hI_ne, hI_nk]; done)) | (focus (simp (disch := omega) only [l0, l1, l2, l3, l4, l5, l6, l7, l8, l9, l10, l11, l16, l18, l20, p1, p2, p3, p4, p5, ixS, ixN, nI_clamp, vp_in_nI, hT_sI, hR_sI, hT_sJ, hR_sJ, hT_sR, hI_sJ, hI_sR, hJ_sI, hJ_sR, hI_eq, hI_ne, hI_nk]; first | assumption | exact okv3 (by assumption)))))))))
      (try simp (disch := omega) only [l0, l1, l2, l3, l4, l5, l6, l7, l8, l9, l10, l11, l16, l18, l20, p1, p2, p3, p4, p5, ixS, ixN, nI_clamp, vp_in_nI, hT_sI, hR_sI, hT_sJ, hR_sJ, hT_sR, hI_sJ, hI_sR, hJ_sI, hJ_sR, hI_eq, hI_ne, hI_nk])
      repeat (first | (refine rs ?_; conv => whnf) | unfold k_call | ((with_reducible refine And.intro ?_ ?_); (first | (first | assumption | rfl | exact True.intro | exact Nat.le_of_ble_eq_true rfl | exact Or.inl rfl | exact Or.inr rfl | exact okv3 (by assumption) | decide | (focus (simp (disch := omega) only [l0, l1, l2, l3, l4, l5, l6, l7, l8, l9, l10, l11, l16, l18, l20, p1, p2, p3, p4, p5, ixS, ixN, nI_clamp, vp_in_nI, hT_sI, hR_sI, hT_sJ, hR_sJ, hT_sR, hI_sJ, hI_sR, hJ_sI, hJ_sR, hI_eq, hI_ne, hI_nk]; done)) | (focus (simp (disch := omega) only [l0, l1, l2, l3, l4, l5, l6, l7, l8, l9, l10, l11, l16, l18, l20, p1, p2, p3, p4, p5, ixS, ixN, nI_clamp, vp_in_nI, hT_sI, hR_sI, hT_sJ, hR_sJ, hT_sR, hI_sJ, hI_sR, hJ_sI, hJ_sR, hI_eq, hI_ne, hI_nk]; first | assumption | exact okv3 (by assumption)))) | (focus (refine ⟨_, rfl, ?_⟩; (first | assumption | rfl | exact True.intro | exact Nat.le_of_ble_eq_true rfl | exact Or.inl rfl | exact Or.inr rfl | exact okv3 (by assumption) | decide | (focus (simp (disch := omega) only [l0, l1, l2, l3, l4, l5, l6, l7, l8, l9, l10, l11, l16, l18, l20, p1, p2, p3, p4, p5, ixS, ixN, nI_clamp, vp_in_nI, hT_sI, hR_sI, hT_sJ, hR_sJ, hT_sR, hI_sJ, hI_sR, hJ_sI, hJ_sR, hI_eq, hI_ne, hI_nk]; done)) | (focus (simp (disch := omega) only [l0, l1, l2, l3, l4, l5, l6, l7, l8, l9, l10, l11, l16, l18, l20, p1, p2, p3, p4, p5, ixS, ixN, nI_clamp, vp_in_nI, hT_sI, hR_sI, hT_sJ, hR_sJ, hT_sR, hI_sJ, hI_sR, hJ_sI, hJ_sR, hI_eq, hI_ne, hI_nk]; first | assumption | exact okv3 (by assumption)))))))))
      (try simp (disch := omega) only [l0, l1, l2, l3, l4, l5, l6, l7, l8, l9, l10, l11, l16, l18, l20, p1, p2, p3, p4, p5, ixS, ixN, nI_clamp, vp_in_nI, hT_sI, hR_sI, hT_sJ, hR_sJ, hT_sR, hI_sJ, hI_sR, hJ_sI, hJ_sR, hI_eq, hI_ne, hI_nk])
      refine evictF_ok hH (by omega) ?_
      have hE := House_evF (i := f + m) hH (by omega)
      generalize cEvF g (f + m) = go at k hE ⊢
      obtain ⟨g2, b⟩ := go
      have hE : House g2 := hE
      cases b with
      | true =>
        repeat (first | (refine rs ?_; conv => whnf) | unfold k_call | ((with_reducible refine And.intro ?_ ?_); (first | (first | assumption | rfl | exact True.intro | exact Nat.le_of_ble_eq_true rfl | exact Or.inl rfl | exact Or.inr rfl | exact okv3 (by assumption) | decide | (focus (simp (disch := omega) only [l0, l1, l2, l3, l4, l5, l6, l7, l8, l9, l10, l11, l16, l18, l20, p1, p2, p3, p4, p5, ixS, ixN, nI_clamp, vp_in_nI, hT_sI, hR_sI, hT_sJ, hR_sJ, hT_sR, hI_sJ, hI_sR, hJ_sI, hJ_sR, hI_eq, hI_ne, hI_nk]; done)) | (focus (simp (disch := omega) only [l0, l1, l2, l3, l4, l5, l6, l7, l8, l9, l10, l11, l16, l18, l20, p1, p2, p3, p4, p5, ixS, ixN, nI_clamp, vp_in_nI, hT_sI, hR_sI, hT_sJ, hR_sJ, hT_sR, hI_sJ, hI_sR, hJ_sI, hJ_sR, hI_eq, hI_ne, hI_nk]; first | assumption | exact okv3 (by assumption)))) | (focus (refine ⟨_, rfl, ?_⟩; (first | assumption | rfl | exact True.intro | exact Nat.le_of_ble_eq_true rfl | exact Or.inl rfl | exact Or.inr rfl | exact okv3 (by assumption) | decide | (focus (simp (disch := omega) only [l0, l1, l2, l3, l4, l5, l6, l7, l8, l9, l10, l11, l16, l18, l20, p1, p2, p3, p4, p5, ixS, ixN, nI_clamp, vp_in_nI, hT_sI, hR_sI, hT_sJ, hR_sJ, hT_sR, hI_sJ, hI_sR, hJ_sI, hJ_sR, hI_eq, hI_ne, hI_nk]; done)) | (focus (simp (disch := omega) only [l0, l1, l2, l3, l4, l5, l6, l7, l8, l9, l10, l11, l16, l18, l20, p1, p2, p3, p4, p5, ixS, ixN, nI_clamp, vp_in_nI, hT_sI, hR_sI, hT_sJ, hR_sJ, hT_sR, hI_sJ, hI_sR, hJ_sI, hJ_sR, hI_eq, hI_ne, hI_nk]; first | assumption | exact okv3 (by assumption)))))))))
        refine br_f (show ¬ (1 : Int32) = 0 by decide) ?_
        have e2 : nI (f + m) + (-1) = nI (f + m - 1) := by
          have z := nI_dec (f + m - 1)
          rw [show f + m - 1 + 1 = f + m by omega] at z
          exact z
        have ih1 := ih (f + m - 1) g2 hE (by omega) (by omega) k
        rw [← e2] at ih1
        repeat (first | (refine rs ?_; conv => whnf) | unfold k_call | ((with_reducible refine And.intro ?_ ?_); (first | (first | assumption | rfl | exact True.intro | exact Nat.le_of_ble_eq_true rfl | exact Or.inl rfl | exact Or.inr rfl | exact okv3 (by assumption) | decide | (focus (simp (disch := omega) only [l0, l1, l2, l3, l4, l5, l6, l7, l8, l9, l10, l11, l16, l18, l20, p1, p2, p3, p4, p5, ixS, ixN, nI_clamp, vp_in_nI, hT_sI, hR_sI, hT_sJ, hR_sJ, hT_sR, hI_sJ, hI_sR, hJ_sI, hJ_sR, hI_eq, hI_ne, hI_nk]; done)) | (focus (simp (disch := omega) only [l0, l1, l2, l3, l4, l5, l6, l7, l8, l9, l10, l11, l16, l18, l20, p1, p2, p3, p4, p5, ixS, ixN, nI_clamp, vp_in_nI, hT_sI, hR_sI, hT_sJ, hR_sJ, hT_sR, hI_sJ, hI_sR, hJ_sI, hJ_sR, hI_eq, hI_ne, hI_nk]; first | assumption | exact okv3 (by assumption)))) | (focus (refine ⟨_, rfl, ?_⟩; (first | assumption | rfl | exact True.intro | exact Nat.le_of_ble_eq_true rfl | exact Or.inl rfl | exact Or.inr rfl | exact okv3 (by assumption) | decide | (focus (simp (disch := omega) only [l0, l1, l2, l3, l4, l5, l6, l7, l8, l9, l10, l11, l16, l18, l20, p1, p2, p3, p4, p5, ixS, ixN, nI_clamp, vp_in_nI, hT_sI, hR_sI, hT_sJ, hR_sJ, hT_sR, hI_sJ, hI_sR, hJ_sI, hJ_sR, hI_eq, hI_ne, hI_nk]; done)) | (focus (simp (disch := omega) only [l0, l1, l2, l3, l4, l5, l6, l7, l8, l9, l10, l11, l16, l18, l20, p1, p2, p3, p4, p5, ixS, ixN, nI_clamp, vp_in_nI, hT_sI, hR_sI, hT_sJ, hR_sJ, hT_sR, hI_sJ, hI_sR, hJ_sI, hJ_sR, hI_eq, hI_ne, hI_nk]; first | assumption | exact okv3 (by assumption)))))))))
        exact ih1
      | false =>
        repeat (first | (refine rs ?_; conv => whnf) | unfold k_call | ((with_reducible refine And.intro ?_ ?_); (first | (first | assumption | rfl | exact True.intro | exact Nat.le_of_ble_eq_true rfl | exact Or.inl rfl | exact Or.inr rfl | exact okv3 (by assumption) | decide | (focus (simp (disch := omega) only [l0, l1, l2, l3, l4, l5, l6, l7, l8, l9, l10, l11, l16, l18, l20, p1, p2, p3, p4, p5, ixS, ixN, nI_clamp, vp_in_nI, hT_sI, hR_sI, hT_sJ, hR_sJ, hT_sR, hI_sJ, hI_sR, hJ_sI, hJ_sR, hI_eq, hI_ne, hI_nk]; done)) | (focus (simp (disch := omega) only [l0, l1, l2, l3, l4, l5, l6, l7, l8, l9, l10, l11, l16, l18, l20, p1, p2, p3, p4, p5, ixS, ixN, nI_clamp, vp_in_nI, hT_sI, hR_sI, hT_sJ, hR_sJ, hT_sR, hI_sJ, hI_sR, hJ_sI, hJ_sR, hI_eq, hI_ne, hI_nk]; first | assumption | exact okv3 (by assumption)))) | (focus (refine ⟨_, rfl, ?_⟩; (first | assumption | rfl | exact True.intro | exact Nat.le_of_ble_eq_true rfl | exact Or.inl rfl | exact Or.inr rfl | exact okv3 (by assumption) | decide | (focus (simp (disch := omega) only [l0, l1, l2, l3, l4, l5, l6, l7, l8, l9, l10, l11, l16, l18, l20, p1, p2, p3, p4, p5, ixS, ixN, nI_clamp, vp_in_nI, hT_sI, hR_sI, hT_sJ, hR_sJ, hT_sR, hI_sJ, hI_sR, hJ_sI, hJ_sR, hI_eq, hI_ne, hI_nk]; done)) | (focus (simp (disch := omega) only [l0, l1, l2, l3, l4, l5, l6, l7, l8, l9, l10, l11, l16, l18, l20, p1, p2, p3, p4, p5, ixS, ixN, nI_clamp, vp_in_nI, hT_sI, hR_sI, hT_sJ, hR_sJ, hT_sR, hI_sJ, hI_sR, hJ_sI, hJ_sR, hI_eq, hI_ne, hI_nk]; first | assumption | exact okv3 (by assumption)))))))))
        refine br_t (show (0 : Int32) = 0 by rfl) ?_
        repeat (first | (refine rs ?_; conv => whnf) | unfold k_call | ((with_reducible refine And.intro ?_ ?_); (first | (first | assumption | rfl | exact True.intro | exact Nat.le_of_ble_eq_true rfl | exact Or.inl rfl | exact Or.inr rfl | exact okv3 (by assumption) | decide | (focus (simp (disch := omega) only [l0, l1, l2, l3, l4, l5, l6, l7, l8, l9, l10, l11, l16, l18, l20, p1, p2, p3, p4, p5, ixS, ixN, nI_clamp, vp_in_nI, hT_sI, hR_sI, hT_sJ, hR_sJ, hT_sR, hI_sJ, hI_sR, hJ_sI, hJ_sR, hI_eq, hI_ne, hI_nk]; done)) | (focus (simp (disch := omega) only [l0, l1, l2, l3, l4, l5, l6, l7, l8, l9, l10, l11, l16, l18, l20, p1, p2, p3, p4, p5, ixS, ixN, nI_clamp, vp_in_nI, hT_sI, hR_sI, hT_sJ, hR_sJ, hT_sR, hI_sJ, hI_sR, hJ_sI, hJ_sR, hI_eq, hI_ne, hI_nk]; first | assumption | exact okv3 (by assumption)))) | (focus (refine ⟨_, rfl, ?_⟩; (first | assumption | rfl | exact True.intro | exact Nat.le_of_ble_eq_true rfl | exact Or.inl rfl | exact Or.inr rfl | exact okv3 (by assumption) | decide | (focus (simp (disch := omega) only [l0, l1, l2, l3, l4, l5, l6, l7, l8, l9, l10, l11, l16, l18, l20, p1, p2, p3, p4, p5, ixS, ixN, nI_clamp, vp_in_nI, hT_sI, hR_sI, hT_sJ, hR_sJ, hT_sR, hI_sJ, hI_sR, hJ_sI, hJ_sR, hI_eq, hI_ne, hI_nk]; done)) | (focus (simp (disch := omega) only [l0, l1, l2, l3, l4, l5, l6, l7, l8, l9, l10, l11, l16, l18, l20, p1, p2, p3, p4, p5, ixS, ixN, nI_clamp, vp_in_nI, hT_sI, hR_sI, hT_sJ, hR_sJ, hT_sR, hI_sJ, hI_sR, hJ_sI, hJ_sR, hI_eq, hI_ne, hI_nk]; first | assumption | exact okv3 (by assumption)))))))))
        exact k.2 rfl
  obtain ⟨l0, l1, l2, l3, l4, l5, l6, l7, l8, l9, l10, l11, l12, l13, l14, l15, l16, l17, l18, l19, l20⟩ := id hH.1.1
  obtain ⟨n1, n2, n3, n4, n5, n6, n7⟩ := Hse_num hH.1
  obtain ⟨p1, p2, p3, p4, p5⟩ := id l14
  unfold cSetFrames at k
  (refine go mX9_setFrames hX [42] 400 ?_; conv => whnf)
  repeat (first | (refine rs ?_; conv => whnf) | unfold k_call | ((with_reducible refine And.intro ?_ ?_); (first | (first | assumption | rfl | exact True.intro | exact Nat.le_of_ble_eq_true rfl | exact Or.inl rfl | exact Or.inr rfl | exact okv3 (by assumption) | decide | (focus (simp (disch := omega) only [l0, l1, l2, l3, l4, l5, l6, l7, l8, l9, l10, l11, l16, l18, l20, p1, p2, p3, p4, p5, ixS, ixN, nI_clamp, vp_in_nI, hT_sI, hR_sI, hT_sJ, hR_sJ, hT_sR, hI_sJ, hI_sR, hJ_sI, hJ_sR, hI_eq, hI_ne, hI_nk]; done)) | (focus (simp (disch := omega) only [l0, l1, l2, l3, l4, l5, l6, l7, l8, l9, l10, l11, l16, l18, l20, p1, p2, p3, p4, p5, ixS, ixN, nI_clamp, vp_in_nI, hT_sI, hR_sI, hT_sJ, hR_sJ, hT_sR, hI_sJ, hI_sR, hJ_sI, hJ_sR, hI_eq, hI_ne, hI_nk]; first | assumption | exact okv3 (by assumption)))) | (focus (refine ⟨_, rfl, ?_⟩; (first | assumption | rfl | exact True.intro | exact Nat.le_of_ble_eq_true rfl | exact Or.inl rfl | exact Or.inr rfl | exact okv3 (by assumption) | decide | (focus (simp (disch := omega) only [l0, l1, l2, l3, l4, l5, l6, l7, l8, l9, l10, l11, l16, l18, l20, p1, p2, p3, p4, p5, ixS, ixN, nI_clamp, vp_in_nI, hT_sI, hR_sI, hT_sJ, hR_sJ, hT_sR, hI_sJ, hI_sR, hJ_sI, hJ_sR, hI_eq, hI_ne, hI_nk]; done)) | (focus (simp (disch := omega) only [l0, l1, l2, l3, l4, l5, l6, l7, l8, l9, l10, l11, l16, l18, l20, p1, p2, p3, p4, p5, ixS, ixN, nI_clamp, vp_in_nI, hT_sI, hR_sI, hT_sJ, hR_sJ, hT_sR, hI_sJ, hI_sR, hJ_sI, hJ_sR, hI_eq, hI_ne, hI_nk]; first | assumption | exact okv3 (by assumption)))))))))
  refine checkRange_ok (fun a b => ?_) (fun q => ?_)
  · rw [if_neg (fun w => w.elim (Int32.not_lt.mpr a) (Int32.not_lt.mpr b))] at k
    obtain ⟨f, hf, e⟩ := nI_of2 (x := x) (M := 16) (n := 16) (by decide) (Int32.not_lt.mpr (Int32.le_trans (by decide) a)) b
    subst e
    have h1 : 1 ≤ f := by
      by_cases q : f = 0
      · subst q
        exact absurd a (by decide)
      · omega
    rw [nI_clamp (by omega)] at k
    repeat (first | (refine rs ?_; conv => whnf) | unfold k_call | ((with_reducible refine And.intro ?_ ?_); (first | (first | assumption | rfl | exact True.intro | exact Nat.le_of_ble_eq_true rfl | exact Or.inl rfl | exact Or.inr rfl | exact okv3 (by assumption) | decide | (focus (simp (disch := omega) only [l0, l1, l2, l3, l4, l5, l6, l7, l8, l9, l10, l11, l16, l18, l20, p1, p2, p3, p4, p5, ixS, ixN, nI_clamp, vp_in_nI, hT_sI, hR_sI, hT_sJ, hR_sJ, hT_sR, hI_sJ, hI_sR, hJ_sI, hJ_sR, hI_eq, hI_ne, hI_nk]; done)) | (focus (simp (disch := omega) only [l0, l1, l2, l3, l4, l5, l6, l7, l8, l9, l10, l11, l16, l18, l20, p1, p2, p3, p4, p5, ixS, ixN, nI_clamp, vp_in_nI, hT_sI, hR_sI, hT_sJ, hR_sJ, hT_sR, hI_sJ, hI_sR, hJ_sI, hJ_sR, hI_eq, hI_ne, hI_nk]; first | assumption | exact okv3 (by assumption)))) | (focus (refine ⟨_, rfl, ?_⟩; (first | assumption | rfl | exact True.intro | exact Nat.le_of_ble_eq_true rfl | exact Or.inl rfl | exact Or.inr rfl | exact okv3 (by assumption) | decide | (focus (simp (disch := omega) only [l0, l1, l2, l3, l4, l5, l6, l7, l8, l9, l10, l11, l16, l18, l20, p1, p2, p3, p4, p5, ixS, ixN, nI_clamp, vp_in_nI, hT_sI, hR_sI, hT_sJ, hR_sJ, hT_sR, hI_sJ, hI_sR, hJ_sI, hJ_sR, hI_eq, hI_ne, hI_nk]; done)) | (focus (simp (disch := omega) only [l0, l1, l2, l3, l4, l5, l6, l7, l8, l9, l10, l11, l16, l18, l20, p1, p2, p3, p4, p5, ixS, ixN, nI_clamp, vp_in_nI, hT_sI, hR_sI, hT_sJ, hR_sJ, hT_sR, hI_sJ, hI_sR, hJ_sI, hJ_sR, hI_eq, hI_ne, hI_nk]; first | assumption | exact okv3 (by assumption)))))))))
    refine checkPower_ok hH.1.1 (fun q => ?_) (fun q => ?_)
    · rw [if_neg q] at k
      repeat (first | (refine rs ?_; conv => whnf) | unfold k_call | ((with_reducible refine And.intro ?_ ?_); (first | (first | assumption | rfl | exact True.intro | exact Nat.le_of_ble_eq_true rfl | exact Or.inl rfl | exact Or.inr rfl | exact okv3 (by assumption) | decide | (focus (simp (disch := omega) only [l0, l1, l2, l3, l4, l5, l6, l7, l8, l9, l10, l11, l16, l18, l20, p1, p2, p3, p4, p5, ixS, ixN, nI_clamp, vp_in_nI, hT_sI, hR_sI, hT_sJ, hR_sJ, hT_sR, hI_sJ, hI_sR, hJ_sI, hJ_sR, hI_eq, hI_ne, hI_nk]; done)) | (focus (simp (disch := omega) only [l0, l1, l2, l3, l4, l5, l6, l7, l8, l9, l10, l11, l16, l18, l20, p1, p2, p3, p4, p5, ixS, ixN, nI_clamp, vp_in_nI, hT_sI, hR_sI, hT_sJ, hR_sJ, hT_sR, hI_sJ, hI_sR, hJ_sI, hJ_sR, hI_eq, hI_ne, hI_nk]; first | assumption | exact okv3 (by assumption)))) | (focus (refine ⟨_, rfl, ?_⟩; (first | assumption | rfl | exact True.intro | exact Nat.le_of_ble_eq_true rfl | exact Or.inl rfl | exact Or.inr rfl | exact okv3 (by assumption) | decide | (focus (simp (disch := omega) only [l0, l1, l2, l3, l4, l5, l6, l7, l8, l9, l10, l11, l16, l18, l20, p1, p2, p3, p4, p5, ixS, ixN, nI_clamp, vp_in_nI, hT_sI, hR_sI, hT_sJ, hR_sJ, hT_sR, hI_sJ, hI_sR, hJ_sI, hJ_sR, hI_eq, hI_ne, hI_nk]; done)) | (focus (simp (disch := omega) only [l0, l1, l2, l3, l4, l5, l6, l7, l8, l9, l10, l11, l16, l18, l20, p1, p2, p3, p4, p5, ixS, ixN, nI_clamp, vp_in_nI, hT_sI, hR_sI, hT_sJ, hR_sJ, hT_sR, hI_sJ, hI_sR, hJ_sI, hJ_sR, hI_eq, hI_ne, hI_nk]; first | assumption | exact okv3 (by assumption)))))))))
      (try simp (disch := omega) only [l0, l1, l2, l3, l4, l5, l6, l7, l8, l9, l10, l11, l16, l18, l20, p1, p2, p3, p4, p5, ixS, ixN, nI_clamp, vp_in_nI, hT_sI, hR_sI, hT_sJ, hR_sJ, hT_sR, hI_sJ, hI_sR, hJ_sI, hJ_sR, hI_eq, hI_ne, hI_nk])
      refine holdsFastBehind_ok l14 n1 n3 (fun q => ?_) (fun q => ?_) hf
      · rw [if_pos (by obtain ⟨i, a, b, c⟩ := q; exact ⟨i, b, a, c⟩)] at k
        repeat (first | (refine rs ?_; conv => whnf) | unfold k_call | ((with_reducible refine And.intro ?_ ?_); (first | (first | assumption | rfl | exact True.intro | exact Nat.le_of_ble_eq_true rfl | exact Or.inl rfl | exact Or.inr rfl | exact okv3 (by assumption) | decide | (focus (simp (disch := omega) only [l0, l1, l2, l3, l4, l5, l6, l7, l8, l9, l10, l11, l16, l18, l20, p1, p2, p3, p4, p5, ixS, ixN, nI_clamp, vp_in_nI, hT_sI, hR_sI, hT_sJ, hR_sJ, hT_sR, hI_sJ, hI_sR, hJ_sI, hJ_sR, hI_eq, hI_ne, hI_nk]; done)) | (focus (simp (disch := omega) only [l0, l1, l2, l3, l4, l5, l6, l7, l8, l9, l10, l11, l16, l18, l20, p1, p2, p3, p4, p5, ixS, ixN, nI_clamp, vp_in_nI, hT_sI, hR_sI, hT_sJ, hR_sJ, hT_sR, hI_sJ, hI_sR, hJ_sI, hJ_sR, hI_eq, hI_ne, hI_nk]; first | assumption | exact okv3 (by assumption)))) | (focus (refine ⟨_, rfl, ?_⟩; (first | assumption | rfl | exact True.intro | exact Nat.le_of_ble_eq_true rfl | exact Or.inl rfl | exact Or.inr rfl | exact okv3 (by assumption) | decide | (focus (simp (disch := omega) only [l0, l1, l2, l3, l4, l5, l6, l7, l8, l9, l10, l11, l16, l18, l20, p1, p2, p3, p4, p5, ixS, ixN, nI_clamp, vp_in_nI, hT_sI, hR_sI, hT_sJ, hR_sJ, hT_sR, hI_sJ, hI_sR, hJ_sI, hJ_sR, hI_eq, hI_ne, hI_nk]; done)) | (focus (simp (disch := omega) only [l0, l1, l2, l3, l4, l5, l6, l7, l8, l9, l10, l11, l16, l18, l20, p1, p2, p3, p4, p5, ixS, ixN, nI_clamp, vp_in_nI, hT_sI, hR_sI, hT_sJ, hR_sJ, hT_sR, hI_sJ, hI_sR, hJ_sI, hJ_sR, hI_eq, hI_ne, hI_nk]; first | assumption | exact okv3 (by assumption)))))))))
        refine br_f (show ¬ (1 : Int32) = 0 by decide) ?_
        repeat (first | (refine rs ?_; conv => whnf) | unfold k_call | ((with_reducible refine And.intro ?_ ?_); (first | (first | assumption | rfl | exact True.intro | exact Nat.le_of_ble_eq_true rfl | exact Or.inl rfl | exact Or.inr rfl | exact okv3 (by assumption) | decide | (focus (simp (disch := omega) only [l0, l1, l2, l3, l4, l5, l6, l7, l8, l9, l10, l11, l16, l18, l20, p1, p2, p3, p4, p5, ixS, ixN, nI_clamp, vp_in_nI, hT_sI, hR_sI, hT_sJ, hR_sJ, hT_sR, hI_sJ, hI_sR, hJ_sI, hJ_sR, hI_eq, hI_ne, hI_nk]; done)) | (focus (simp (disch := omega) only [l0, l1, l2, l3, l4, l5, l6, l7, l8, l9, l10, l11, l16, l18, l20, p1, p2, p3, p4, p5, ixS, ixN, nI_clamp, vp_in_nI, hT_sI, hR_sI, hT_sJ, hR_sJ, hT_sR, hI_sJ, hI_sR, hJ_sI, hJ_sR, hI_eq, hI_ne, hI_nk]; first | assumption | exact okv3 (by assumption)))) | (focus (refine ⟨_, rfl, ?_⟩; (first | assumption | rfl | exact True.intro | exact Nat.le_of_ble_eq_true rfl | exact Or.inl rfl | exact Or.inr rfl | exact okv3 (by assumption) | decide | (focus (simp (disch := omega) only [l0, l1, l2, l3, l4, l5, l6, l7, l8, l9, l10, l11, l16, l18, l20, p1, p2, p3, p4, p5, ixS, ixN, nI_clamp, vp_in_nI, hT_sI, hR_sI, hT_sJ, hR_sJ, hT_sR, hI_sJ, hI_sR, hJ_sI, hJ_sR, hI_eq, hI_ne, hI_nk]; done)) | (focus (simp (disch := omega) only [l0, l1, l2, l3, l4, l5, l6, l7, l8, l9, l10, l11, l16, l18, l20, p1, p2, p3, p4, p5, ixS, ixN, nI_clamp, vp_in_nI, hT_sI, hR_sI, hT_sJ, hR_sJ, hT_sR, hI_sJ, hI_sR, hJ_sI, hJ_sR, hI_eq, hI_ne, hI_nk]; first | assumption | exact okv3 (by assumption)))))))))
        exact k
      · rw [if_neg (fun w => by obtain ⟨i, a, b, c⟩ := w; exact c.elim (q i b a).1 (fun z => z (q i b a).2))] at k
        repeat (first | (refine rs ?_; conv => whnf) | unfold k_call | ((with_reducible refine And.intro ?_ ?_); (first | (first | assumption | rfl | exact True.intro | exact Nat.le_of_ble_eq_true rfl | exact Or.inl rfl | exact Or.inr rfl | exact okv3 (by assumption) | decide | (focus (simp (disch := omega) only [l0, l1, l2, l3, l4, l5, l6, l7, l8, l9, l10, l11, l16, l18, l20, p1, p2, p3, p4, p5, ixS, ixN, nI_clamp, vp_in_nI, hT_sI, hR_sI, hT_sJ, hR_sJ, hT_sR, hI_sJ, hI_sR, hJ_sI, hJ_sR, hI_eq, hI_ne, hI_nk]; done)) | (focus (simp (disch := omega) only [l0, l1, l2, l3, l4, l5, l6, l7, l8, l9, l10, l11, l16, l18, l20, p1, p2, p3, p4, p5, ixS, ixN, nI_clamp, vp_in_nI, hT_sI, hR_sI, hT_sJ, hR_sJ, hT_sR, hI_sJ, hI_sR, hJ_sI, hJ_sR, hI_eq, hI_ne, hI_nk]; first | assumption | exact okv3 (by assumption)))) | (focus (refine ⟨_, rfl, ?_⟩; (first | assumption | rfl | exact True.intro | exact Nat.le_of_ble_eq_true rfl | exact Or.inl rfl | exact Or.inr rfl | exact okv3 (by assumption) | decide | (focus (simp (disch := omega) only [l0, l1, l2, l3, l4, l5, l6, l7, l8, l9, l10, l11, l16, l18, l20, p1, p2, p3, p4, p5, ixS, ixN, nI_clamp, vp_in_nI, hT_sI, hR_sI, hT_sJ, hR_sJ, hT_sR, hI_sJ, hI_sR, hJ_sI, hJ_sR, hI_eq, hI_ne, hI_nk]; done)) | (focus (simp (disch := omega) only [l0, l1, l2, l3, l4, l5, l6, l7, l8, l9, l10, l11, l16, l18, l20, p1, p2, p3, p4, p5, ixS, ixN, nI_clamp, vp_in_nI, hT_sI, hR_sI, hT_sJ, hR_sJ, hT_sR, hI_sJ, hI_sR, hJ_sI, hJ_sR, hI_eq, hI_ne, hI_nk]; first | assumption | exact okv3 (by assumption)))))))))
        refine br_t (show (0 : Int32) = 0 by rfl) ?_
        repeat (first | (refine rs ?_; conv => whnf) | unfold k_call | ((with_reducible refine And.intro ?_ ?_); (first | (first | assumption | rfl | exact True.intro | exact Nat.le_of_ble_eq_true rfl | exact Or.inl rfl | exact Or.inr rfl | exact okv3 (by assumption) | decide | (focus (simp (disch := omega) only [l0, l1, l2, l3, l4, l5, l6, l7, l8, l9, l10, l11, l16, l18, l20, p1, p2, p3, p4, p5, ixS, ixN, nI_clamp, vp_in_nI, hT_sI, hR_sI, hT_sJ, hR_sJ, hT_sR, hI_sJ, hI_sR, hJ_sI, hJ_sR, hI_eq, hI_ne, hI_nk]; done)) | (focus (simp (disch := omega) only [l0, l1, l2, l3, l4, l5, l6, l7, l8, l9, l10, l11, l16, l18, l20, p1, p2, p3, p4, p5, ixS, ixN, nI_clamp, vp_in_nI, hT_sI, hR_sI, hT_sJ, hR_sJ, hT_sR, hI_sJ, hI_sR, hJ_sI, hJ_sR, hI_eq, hI_ne, hI_nk]; first | assumption | exact okv3 (by assumption)))) | (focus (refine ⟨_, rfl, ?_⟩; (first | assumption | rfl | exact True.intro | exact Nat.le_of_ble_eq_true rfl | exact Or.inl rfl | exact Or.inr rfl | exact okv3 (by assumption) | decide | (focus (simp (disch := omega) only [l0, l1, l2, l3, l4, l5, l6, l7, l8, l9, l10, l11, l16, l18, l20, p1, p2, p3, p4, p5, ixS, ixN, nI_clamp, vp_in_nI, hT_sI, hR_sI, hT_sJ, hR_sJ, hT_sR, hI_sJ, hI_sR, hJ_sI, hJ_sR, hI_eq, hI_ne, hI_nk]; done)) | (focus (simp (disch := omega) only [l0, l1, l2, l3, l4, l5, l6, l7, l8, l9, l10, l11, l16, l18, l20, p1, p2, p3, p4, p5, ixS, ixN, nI_clamp, vp_in_nI, hT_sI, hR_sI, hT_sJ, hR_sJ, hT_sR, hI_sJ, hI_sR, hJ_sI, hJ_sR, hI_eq, hI_ne, hI_nk]; first | assumption | exact okv3 (by assumption)))))))))
        (try simp (disch := omega) only [l0, l1, l2, l3, l4, l5, l6, l7, l8, l9, l10, l11, l16, l18, l20, p1, p2, p3, p4, p5, ixS, ixN, nI_clamp, vp_in_nI, hT_sI, hR_sI, hT_sJ, hR_sJ, hT_sR, hI_sJ, hI_sR, hJ_sI, hJ_sR, hI_eq, hI_ne, hI_nk])
        rw [n1]
        have e2 : nI (nN h) - 1 = nI (nN h - 1) := by
          have z := nI_pred (nN h - 1)
          rw [show nN h - 1 + 1 = nN h by omega] at z
          exact z
        have l1 := loop f h1 hf (nN h - f) (nN h - 1) h hH (by omega) (by omega) ⟨fun e => by rw [if_pos e] at k; exact k, fun e => by rw [if_neg (by rw [e]; decide)] at k; exact k⟩
        rw [← e2] at l1
        repeat (first | (refine rs ?_; conv => whnf) | unfold k_call | ((with_reducible refine And.intro ?_ ?_); (first | (first | assumption | rfl | exact True.intro | exact Nat.le_of_ble_eq_true rfl | exact Or.inl rfl | exact Or.inr rfl | exact okv3 (by assumption) | decide | (focus (simp (disch := omega) only [l0, l1, l2, l3, l4, l5, l6, l7, l8, l9, l10, l11, l16, l18, l20, p1, p2, p3, p4, p5, ixS, ixN, nI_clamp, vp_in_nI, hT_sI, hR_sI, hT_sJ, hR_sJ, hT_sR, hI_sJ, hI_sR, hJ_sI, hJ_sR, hI_eq, hI_ne, hI_nk]; done)) | (focus (simp (disch := omega) only [l0, l1, l2, l3, l4, l5, l6, l7, l8, l9, l10, l11, l16, l18, l20, p1, p2, p3, p4, p5, ixS, ixN, nI_clamp, vp_in_nI, hT_sI, hR_sI, hT_sJ, hR_sJ, hT_sR, hI_sJ, hI_sR, hJ_sI, hJ_sR, hI_eq, hI_ne, hI_nk]; first | assumption | exact okv3 (by assumption)))) | (focus (refine ⟨_, rfl, ?_⟩; (first | assumption | rfl | exact True.intro | exact Nat.le_of_ble_eq_true rfl | exact Or.inl rfl | exact Or.inr rfl | exact okv3 (by assumption) | decide | (focus (simp (disch := omega) only [l0, l1, l2, l3, l4, l5, l6, l7, l8, l9, l10, l11, l16, l18, l20, p1, p2, p3, p4, p5, ixS, ixN, nI_clamp, vp_in_nI, hT_sI, hR_sI, hT_sJ, hR_sJ, hT_sR, hI_sJ, hI_sR, hJ_sI, hJ_sR, hI_eq, hI_ne, hI_nk]; done)) | (focus (simp (disch := omega) only [l0, l1, l2, l3, l4, l5, l6, l7, l8, l9, l10, l11, l16, l18, l20, p1, p2, p3, p4, p5, ixS, ixN, nI_clamp, vp_in_nI, hT_sI, hR_sI, hT_sJ, hR_sJ, hT_sR, hI_sJ, hI_sR, hJ_sI, hJ_sR, hI_eq, hI_ne, hI_nk]; first | assumption | exact okv3 (by assumption)))))))))
        exact l1
    · rw [if_pos q] at k
      exact k
  · rw [if_pos q] at k
    exact k
def mxA (h : CH) (a : Nat) : Int32 := if nI a < hI h 302 4 then hI h 302 4 else nI a
def stI (h : CH) (a : Nat) : Int32 := if mxA h a < nI (a + 16) then mxA h a else nI (a + 16)
theorem stI_nI {h : CH} {a : Nat} (ha : a ≤ 112) : ∃ j, a ≤ j ∧ j ≤ a + 16 ∧ stI h a = nI j := by
  have key : ∀ v : Int32, nI a < v → v < nI (a + 16) → ∃ j, a ≤ j ∧ j ≤ a + 16 ∧ v = nI j := fun v h1 h2 => by
    obtain ⟨j, hj, e⟩ := nI_of (x := v) (fun q => nI_pos (n := a) (by omega) (Int32.lt_trans h1 q))
    subst e
    rw [nI_ltI (by omega) hj] at h1
    rw [nI_ltI hj (by omega)] at h2
    exact ⟨j, by omega, by omega, rfl⟩
  unfold stI
  split
  · next q =>
    unfold mxA at q ⊢
    split
    · next c =>
      rw [if_pos c] at q
      exact key _ c q
    · exact ⟨a, by omega, by omega, rfl⟩
  · exact ⟨a + 16, by omega, by omega, rfl⟩
def stN (h : CH) (a : Nat) : Nat := (stI h a).toNatClampNeg
theorem stN_ok {h : CH} {a : Nat} (ha : a ≤ 112) : stI h a = nI (stN h a) ∧ a ≤ stN h a ∧ stN h a ≤ a + 16 := by
  obtain ⟨j, h1, h2, e⟩ := stI_nI (h := h) ha
  unfold stN
  rw [e, nI_clamp (by omega)]
  exact ⟨rfl, h1, h2⟩
def cSync2 (a st : Nat) (r : CH × Int32) : Out :=
  if 0 ≤ r.2 then (if 0 ≤ (cFS (st - a) a 0 r.1).2 then ((cFS (st - a) a 0 r.1).1, .inl [.int (r.2 + (cFS (st - a) a 0 r.1).2)]) else ((cFS (st - a) a 0 r.1).1, .inl [.int (-1)]))
  else (r.1, .inl [.int (-1)])
def cSync (h : CH) (x : Int32) : Out := match cSpot h x 0 with
  | none => (h, .inr "java/lang/IndexOutOfBoundsException")
  | some a => if hI h 300 14 = 0 then (h, .inr "java/lang/UnsupportedOperationException") else cSync2 a (stN h a) (cFS (a + 16 - stN h a) (stN h a) 0 h)
theorem House_sync {h : CH} {x : Int32} (hH : House h) : House (cSync h x).1 := by
  unfold cSync
  split
  · exact hH
  · next a _ =>
    split
    · exact hH
    · have z := House_FS (a + 16 - stN h a) (stN h a) 0 h hH
      unfold cSync2
      split
      · split
        · exact House_FS _ _ _ _ z
        · exact House_FS _ _ _ _ z
      · exact z
theorem sync_ok {h : CH} {x : Int32} {Q : QT} (hH : House h) (k : Q (cSync h x).2 (cSync h x).1) : wX9_sync [.ref 300, .int x] h Q := by
  refine wgo (fun X hX => ?_) (by show 2 ≤ 7; decide)
  obtain ⟨l0, l1, l2, l3, l4, l5, l6, l7, l8, l9, l10, l11, l12, l13, l14, l15, l16, l17, l18, l19, l20⟩ := id hH.1.1
  have hF := Hse_fil hH.1
  have d1 := l11 0 (by decide)
  have d2 := (l12 0 (by decide)).1
  unfold cSync at k
  (refine go mX9_sync hX [] 400 ?_; conv => whnf)
  repeat (first | (refine rs ?_; conv => whnf) | unfold k_call | ((with_reducible refine And.intro ?_ ?_); (first | (first | assumption | rfl | exact True.intro | exact Nat.le_of_ble_eq_true rfl | exact Or.inl rfl | exact Or.inr rfl | exact okv3 (by assumption) | decide | (focus (simp (disch := omega) only [l0, l1, l2, l3, l4, l5, l6, l7, l8, l9, l10, l11, l16, l18, l20, d1, d2, nI_add, nI_clamp, vp_in_nI, hT_sI, hR_sI, hT_sJ, hR_sJ, hT_sR, hI_sJ, hI_sR, hJ_sI, hJ_sR, hI_eq, hI_ne, hI_nk]; done)) | (focus (simp (disch := omega) only [l0, l1, l2, l3, l4, l5, l6, l7, l8, l9, l10, l11, l16, l18, l20, d1, d2, nI_add, nI_clamp, vp_in_nI, hT_sI, hR_sI, hT_sJ, hR_sJ, hT_sR, hI_sJ, hI_sR, hJ_sI, hJ_sR, hI_eq, hI_ne, hI_nk]; first | assumption | exact okv3 (by assumption)))) | (focus (refine ⟨_, rfl, ?_⟩; (first | assumption | rfl | exact True.intro | exact Nat.le_of_ble_eq_true rfl | exact Or.inl rfl | exact Or.inr rfl | exact okv3 (by assumption) | decide | (focus (simp (disch := omega) only [l0, l1, l2, l3, l4, l5, l6, l7, l8, l9, l10, l11, l16, l18, l20, d1, d2, nI_add, nI_clamp, vp_in_nI, hT_sI, hR_sI, hT_sJ, hR_sJ, hT_sR, hI_sJ, hI_sR, hJ_sI, hJ_sR, hI_eq, hI_ne, hI_nk]; done)) | (focus (simp (disch := omega) only [l0, l1, l2, l3, l4, l5, l6, l7, l8, l9, l10, l11, l16, l18, l20, d1, d2, nI_add, nI_clamp, vp_in_nI, hT_sI, hR_sI, hT_sJ, hR_sJ, hT_sR, hI_sJ, hI_sR, hJ_sI, hJ_sR, hI_eq, hI_ne, hI_nk]; first | assumption | exact okv3 (by assumption)))))))))
  refine spotF_ok hH (fun a e hs hx => ?_) (fun e => ?_)
  · rw [e] at k
    dsimp only at k
    have ha : a ≤ 112 := by
      obtain ⟨f, b, hf, hb, e1, e2, e3⟩ := hx
      have hb0 : b = 0 := ((nI_eq (a := 0) (b := b) (by decide) (by omega)).mp e2).symm
      have hh := (hF.2.2 f hf).2
      have e4 : hmN h f ≤ 112 := hh
      omega
    repeat (first | (refine rs ?_; conv => whnf) | unfold k_call | ((with_reducible refine And.intro ?_ ?_); (first | (first | assumption | rfl | exact True.intro | exact Nat.le_of_ble_eq_true rfl | exact Or.inl rfl | exact Or.inr rfl | exact okv3 (by assumption) | decide | (focus (simp (disch := omega) only [l0, l1, l2, l3, l4, l5, l6, l7, l8, l9, l10, l11, l16, l18, l20, d1, d2, nI_add, nI_clamp, vp_in_nI, hT_sI, hR_sI, hT_sJ, hR_sJ, hT_sR, hI_sJ, hI_sR, hJ_sI, hJ_sR, hI_eq, hI_ne, hI_nk]; done)) | (focus (simp (disch := omega) only [l0, l1, l2, l3, l4, l5, l6, l7, l8, l9, l10, l11, l16, l18, l20, d1, d2, nI_add, nI_clamp, vp_in_nI, hT_sI, hR_sI, hT_sJ, hR_sJ, hT_sR, hI_sJ, hI_sR, hJ_sI, hJ_sR, hI_eq, hI_ne, hI_nk]; first | assumption | exact okv3 (by assumption)))) | (focus (refine ⟨_, rfl, ?_⟩; (first | assumption | rfl | exact True.intro | exact Nat.le_of_ble_eq_true rfl | exact Or.inl rfl | exact Or.inr rfl | exact okv3 (by assumption) | decide | (focus (simp (disch := omega) only [l0, l1, l2, l3, l4, l5, l6, l7, l8, l9, l10, l11, l16, l18, l20, d1, d2, nI_add, nI_clamp, vp_in_nI, hT_sI, hR_sI, hT_sJ, hR_sJ, hT_sR, hI_sJ, hI_sR, hJ_sI, hJ_sR, hI_eq, hI_ne, hI_nk]; done)) | (focus (simp (disch := omega) only [l0, l1, l2, l3, l4, l5, l6, l7, l8, l9, l10, l11, l16, l18, l20, d1, d2, nI_add, nI_clamp, vp_in_nI, hT_sI, hR_sI, hT_sJ, hR_sJ, hT_sR, hI_sJ, hI_sR, hJ_sI, hJ_sR, hI_eq, hI_ne, hI_nk]; first | assumption | exact okv3 (by assumption)))))))))
    refine checkPower_ok hH.1.1 (fun q => ?_) (fun q => ?_)
    · rw [if_neg q] at k
      repeat (first | (refine rs ?_; conv => whnf) | unfold k_call | ((with_reducible refine And.intro ?_ ?_); (first | (first | assumption | rfl | exact True.intro | exact Nat.le_of_ble_eq_true rfl | exact Or.inl rfl | exact Or.inr rfl | exact okv3 (by assumption) | decide | (focus (simp (disch := omega) only [l0, l1, l2, l3, l4, l5, l6, l7, l8, l9, l10, l11, l16, l18, l20, d1, d2, nI_add, nI_clamp, vp_in_nI, hT_sI, hR_sI, hT_sJ, hR_sJ, hT_sR, hI_sJ, hI_sR, hJ_sI, hJ_sR, hI_eq, hI_ne, hI_nk]; done)) | (focus (simp (disch := omega) only [l0, l1, l2, l3, l4, l5, l6, l7, l8, l9, l10, l11, l16, l18, l20, d1, d2, nI_add, nI_clamp, vp_in_nI, hT_sI, hR_sI, hT_sJ, hR_sJ, hT_sR, hI_sJ, hI_sR, hJ_sI, hJ_sR, hI_eq, hI_ne, hI_nk]; first | assumption | exact okv3 (by assumption)))) | (focus (refine ⟨_, rfl, ?_⟩; (first | assumption | rfl | exact True.intro | exact Nat.le_of_ble_eq_true rfl | exact Or.inl rfl | exact Or.inr rfl | exact okv3 (by assumption) | decide | (focus (simp (disch := omega) only [l0, l1, l2, l3, l4, l5, l6, l7, l8, l9, l10, l11, l16, l18, l20, d1, d2, nI_add, nI_clamp, vp_in_nI, hT_sI, hR_sI, hT_sJ, hR_sJ, hT_sR, hI_sJ, hI_sR, hJ_sI, hJ_sR, hI_eq, hI_ne, hI_nk]; done)) | (focus (simp (disch := omega) only [l0, l1, l2, l3, l4, l5, l6, l7, l8, l9, l10, l11, l16, l18, l20, d1, d2, nI_add, nI_clamp, vp_in_nI, hT_sI, hR_sI, hT_sJ, hR_sJ, hT_sR, hI_sJ, hI_sR, hJ_sI, hJ_sR, hI_eq, hI_ne, hI_nk]; first | assumption | exact okv3 (by assumption)))))))))
      (try simp (disch := omega) only [l0, l1, l2, l3, l4, l5, l6, l7, l8, l9, l10, l11, l16, l18, l20, d1, d2, nI_add, nI_clamp, vp_in_nI, hT_sI, hR_sI, hT_sJ, hR_sJ, hT_sR, hI_sJ, hI_sR, hJ_sI, hJ_sR, hI_eq, hI_ne, hI_nk])
      repeat (first | (refine rs ?_; conv => whnf) | unfold k_call | ((with_reducible refine And.intro ?_ ?_); (first | (first | assumption | rfl | exact True.intro | exact Nat.le_of_ble_eq_true rfl | exact Or.inl rfl | exact Or.inr rfl | exact okv3 (by assumption) | decide | (focus (simp (disch := omega) only [l0, l1, l2, l3, l4, l5, l6, l7, l8, l9, l10, l11, l16, l18, l20, d1, d2, nI_add, nI_clamp, vp_in_nI, hT_sI, hR_sI, hT_sJ, hR_sJ, hT_sR, hI_sJ, hI_sR, hJ_sI, hJ_sR, hI_eq, hI_ne, hI_nk]; done)) | (focus (simp (disch := omega) only [l0, l1, l2, l3, l4, l5, l6, l7, l8, l9, l10, l11, l16, l18, l20, d1, d2, nI_add, nI_clamp, vp_in_nI, hT_sI, hR_sI, hT_sJ, hR_sJ, hT_sR, hI_sJ, hI_sR, hJ_sI, hJ_sR, hI_eq, hI_ne, hI_nk]; first | assumption | exact okv3 (by assumption)))) | (focus (refine ⟨_, rfl, ?_⟩; (first | assumption | rfl | exact True.intro | exact Nat.le_of_ble_eq_true rfl | exact Or.inl rfl | exact Or.inr rfl | exact okv3 (by assumption) | decide | (focus (simp (disch := omega) only [l0, l1, l2, l3, l4, l5, l6, l7, l8, l9, l10, l11, l16, l18, l20, d1, d2, nI_add, nI_clamp, vp_in_nI, hT_sI, hR_sI, hT_sJ, hR_sJ, hT_sR, hI_sJ, hI_sR, hJ_sI, hJ_sR, hI_eq, hI_ne, hI_nk]; done)) | (focus (simp (disch := omega) only [l0, l1, l2, l3, l4, l5, l6, l7, l8, l9, l10, l11, l16, l18, l20, d1, d2, nI_add, nI_clamp, vp_in_nI, hT_sI, hR_sI, hT_sJ, hR_sJ, hT_sR, hI_sJ, hI_sR, hJ_sI, hJ_sR, hI_eq, hI_ne, hI_nk]; first | assumption | exact okv3 (by assumption)))))))))
      (try simp (disch := omega) only [l0, l1, l2, l3, l4, l5, l6, l7, l8, l9, l10, l11, l16, l18, l20, d1, d2, nI_add, nI_clamp, vp_in_nI, hT_sI, hR_sI, hT_sJ, hR_sJ, hT_sR, hI_sJ, hI_sR, hJ_sI, hJ_sR, hI_eq, hI_ne, hI_nk])
      sorry
    · rw [if_pos q] at k
      exact k
  · rw [e] at k
    exact k
