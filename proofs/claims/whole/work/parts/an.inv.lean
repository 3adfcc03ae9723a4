/-! THE CLASS'S OWN INVARIANT, kept by every call -/
def INV (n : Nat) (a : CH) : Prop := WkI a ∧ PnI n a ∧ TQ a ∧ CtI n a
theorem inv_P {n : Nat} {h g : CH} (I : INV n h) (e1 : ∀ x k, 340 ≤ x → x < 358 → hI g x k = hI h x k) (e2 : hI g 358 0 = hI h 358 0 ∧ hI g 358 1 = hI h 358 1) (e4 : ∀ i, i < 16 → FrK h g i) : PnI n g ∧ TQ g ∧ CtI n g := by
  obtain ⟨-, i2, i3, j, k, i4, i5, i6⟩ := I
  refine ⟨fun i hi => ?_, tq_cg i3 (fun x k hx => e1 _ _ (by omega) (by omega)), j, k, i4, e2.1.trans i5, e2.2.trans i6⟩
  rcases e4 i hi with ⟨z1, z2⟩ | z
  · rw [z1, z2]
    exact i2 i hi
  · rw [z]
    exact ⟨⟨0, Nat.zero_le _, rfl⟩, fun _ => rfl⟩
theorem wk_same {h g : CH} (W : WkI h) (e0 : hI g 334 0 = hI h 334 0) (e2 : hI g 334 2 = hI h 334 2) (e9 : ∀ i, i < 16 → hI g (313 + 2 + i) 9 = hI h (313 + 2 + i) 9) : WkI g := by
  have c : cnt (wkP g 313) 16 = cnt (wkP h 313) 16 := cnt_cg (fun i hi => by unfold wkP; rw [e9 i hi])
  unfold WkI
  rw [e0, e2, c]
  exact ⟨W.1, W.2.1, fun q i hi => by rw [e9 i hi]; exact W.2.2 q i hi⟩
theorem wk_zero {g : CH} (F : Fz g) : WkI g := by
  have c : cnt (wkP g 313) 16 = 0 := cnt_none (fun i hi => by
    unfold wkP
    rw [F.2 i hi]
    exact decide_eq_false (fun w => w rfl))
  unfold WkI
  rw [c]
  exact ⟨F.1, by omega, fun _ i hi => F.2 i hi⟩
theorem inv_KW {n : Nat} {h g : CH} (I : INV n h) (K : KW h g) : INV n g := by
  refine ⟨?_, inv_P I K.1 K.2.1 K.2.2.2⟩
  rcases K.2.2.1 with ⟨z0, z1, z2⟩ | z
  · exact wk_same I.1 z0 z1 z2
  · exact wk_zero z
theorem inv_up {n m : Nat} {h : CH} (I : INV n h) (e : n ≤ m) : INV m h := by
  obtain ⟨i1, i2, i3, j, k, i4, i5⟩ := I
  refine ⟨i1, fun i hi => ?_, i3, j, k, by omega, i5⟩
  obtain ⟨⟨q, q1, q2⟩, q3⟩ := i2 i hi
  exact ⟨⟨q, by omega, q2⟩, q3⟩
theorem inv_tro {n : Nat} {h g : CH} (I : INV n h) (O : TrO h g) (T : TQ g) : INV n g := by
  obtain ⟨i1, i2, i3, j, k, i4, i5, i6⟩ := I
  have e := O.2.2.2
  refine ⟨wk_same i1 (e _ _ (by omega)) (e _ _ (by omega)) (fun i hi => e _ _ (by omega)), fun i hi => ?_, T, j, k, i4, (e _ _ (by omega)).trans i5, (e _ _ (by omega)).trans i6⟩
  rw [e _ _ (by omega), e _ _ (by omega)]
  exact i2 i hi
theorem spo_lt {h : CH} {x y : Int32} {sp : Nat} (hH : House h) (e : cSpot h x y = some sp) : sp + 16 ≤ 128 + y.toNatClampNeg ∧ y.toNatClampNeg < 16 := by
  have hF := Hse_fil hH.1
  have h8 : fcN h ≤ 8 := hF.2.1
  unfold cSpot at e
  split at e
  · cases e
  · next c =>
    cases e
    obtain ⟨b, hb, e2⟩ := nI_of (x := y) (fun q => c (Or.inr (Or.inr (Or.inl q))))
    obtain ⟨f, hf, e1⟩ := nI_of (x := x) (fun q => c (Or.inl q))
    subst e1
    subst e2
    rw [nI_clamp hb, nI_clamp hf]
    have hb16 : b < 16 := (nI_ltI (b := 16) hb (by decide)).mp (by by_cases q : nI b < 16; exact q; exact absurd (Or.inr (Or.inr (Or.inr q))) c)
    have hfc : f < fcN h := by
      have z : ¬ nI (fcN h) ≤ nI f := fun q => c (Or.inr (Or.inl q))
      rw [nI_leI (by omega) hf] at z
      omega
    have hh : hmN h f ≤ 112 := (hF.2.2 f hfc).2
    omega
theorem inv_sI {n : Nat} {h : CH} {a k : Nat} {v : Int32} (I : INV n h) (q : ¬ Vt a k) : INV n (sI h a k v) := inv_KW I (kw_sI q)
theorem inv_begin {n : Nat} {h : CH} (I : INV n h) : INV n (cBegin h).1 := by
  unfold cBegin
  split
  · exact I
  · split
    · exact I
    · have o : ∀ x k, ¬ (x = 334 ∧ k ≤ 1) → hI (sI (sI h 334 0 1) 334 1 (hI h 334 1 + 1)) x k = hI h x k := fun x k q => by
        rw [hI_sI, if_neg (by omega), hI_sI, if_neg (by omega)]
      refine ⟨?_, inv_P I (fun x k p q => o _ _ (by omega)) ⟨o _ _ (by omega), o _ _ (by omega)⟩ (fun i hi => Or.inl ⟨o _ _ (by omega), o _ _ (by omega)⟩)⟩
      show WkI (sI (sI h 334 0 1) 334 1 (hI h 334 1 + 1))
      have c : cnt (wkP (sI (sI h 334 0 1) 334 1 (hI h 334 1 + 1)) 313) 16 = cnt (wkP h 313) 16 := cnt_cg (fun i hi => by unfold wkP; rw [o _ _ (by omega)])
      unfold WkI
      rw [c, o 334 2 (by omega), hI_nk (by omega), hI_eq]
      exact ⟨I.1.1, I.1.2.1, fun q => absurd q (by decide)⟩
theorem ck_9 {h : CH} : ∀ n, n ≤ 16 → ∀ i, i < 16 → hI (cCK h n) (313 + 2 + i) 9 = if i < n then 0 else hI h (313 + 2 + i) 9
  | 0, _, i, hi => by rw [if_neg (Nat.not_lt_zero _)]; rfl
  | n + 1, hn, i, hi => by
    have ih := ck_9 (h := h) n (by omega) i hi
    unfold cCK
    split
    · next c =>
      by_cases e : i = n
      · rw [if_pos (by omega), e]
        exact c
      · rw [ih]
        by_cases l : i < n
        · rw [if_pos l, if_pos (by omega)]
        · rw [if_neg l, if_neg (by omega)]
    · by_cases e : i = n
      · rw [if_pos (by omega), e, hI_eq]
      · rw [hI_ne (by omega), hI_keep (by omega) (by omega) (by omega), ih]
        by_cases l : i < n
        · rw [if_pos l, if_pos (by omega)]
        · rw [if_neg l, if_neg (by omega)]
theorem ck_o {h : CH} {x k : Nat} (q1 : ¬ (x = 331 ∧ k = 2)) (q2 : ¬ x = 332) (q3 : ¬ x = 333) (q4 : ¬ (315 ≤ x ∧ x < 331 ∧ k = 9)) : ∀ n, n ≤ 16 → hI (cCK h n) x k = hI h x k
  | 0, _ => rfl
  | n + 1, hn => by
    have ih := ck_o (h := h) q1 q2 q3 q4 n (by omega)
    unfold cCK
    split
    · exact ih
    · rw [hI_sI, if_neg (by omega), hI_keep (by omega) (by omega) (by omega), ih]
theorem fz_free {g e : CH} (hH : House g) (F : ∀ i, nN g ≤ i → i < 16 → hI g (313 + 2 + i) 0 = -1) (h2 : hI g 334 2 = 0) (h9 : ∀ i, i < nN g → i < 16 → hI g (313 + 2 + i) 9 = 0) : Fz g := ⟨h2, fun i hi => by
  rcases Nat.lt_or_ge i (nN g) with q | q
  · exact h9 i q hi
  · exact hol_9 hH hi (F i q hi)⟩
theorem kw_com4 {g : CH} (hH : House g) (hF : House (cCom3 g).1) (F : ∀ i, nN (cCom3 g).1 ≤ i → i < 16 → hI (cCom3 g).1 (313 + 2 + i) 0 = -1) : KW g (cCom3 g).1 := by
  have n16 := (Hse_num hH.1).2.2.1
  have o : ∀ x k, ¬ (x = 331 ∧ k = 2) → ¬ x = 332 → ¬ x = 333 → ¬ (315 ≤ x ∧ x < 331 ∧ k = 9) → ¬ x = 334 → hI (cCom3 g).1 x k = hI g x k := fun x k q1 q2 q3 q4 q5 => by
    unfold cCom3 cCom4
    dsimp only
    rw [hI_ne q5, hI_ne q5, ck_o q1 q2 q3 q4 _ n16]
    rfl
  have en : nN (cCom3 g).1 = nN g := by
    unfold nN
    rw [o _ _ (by omega) (by omega) (by omega) (by omega) (by omega)]
  have z9 : ∀ i, i < nN (cCom3 g).1 → i < 16 → hI (cCom3 g).1 (313 + 2 + i) 9 = 0 := fun i h1 hi => by
    rw [en] at h1
    unfold cCom3 cCom4
    dsimp only
    rw [hI_ne (by omega), hI_ne (by omega), ck_9 _ n16 i hi, if_pos h1]
  refine ⟨fun x k p q => o _ _ (by omega) (by omega) (by omega) (by omega) (by omega), ⟨o _ _ (by omega) (by omega) (by omega) (by omega) (by omega), o _ _ (by omega) (by omega) (by omega) (by omega) (by omega)⟩, Or.inr (fz_free (e := g) hF F ?_ z9), fun i hi => Or.inl ⟨o _ _ (by omega) (by omega) (by omega) (by omega) (by omega), o _ _ (by omega) (by omega) (by omega) (by omega) (by omega)⟩⟩
  unfold cCom3 cCom4
  dsimp only
  rw [hI_eq]
theorem kw_com2 {g : CH} (hH : House g) (hF : House (cCom2 g).1) (F : ∀ i, nN (cCom2 g).1 ≤ i → i < 16 → hI (cCom2 g).1 (313 + 2 + i) 0 = -1) : KW g (cCom2 g).1 := by
  unfold cCom2 at hF F ⊢
  by_cases c : Falls g
  · rw [if_pos c]
    exact kw_tick.trans kw_lose
  · rw [if_neg c] at hF F ⊢
    exact kw_tick.trans (kw_com4 (House_tick hH) hF F)
theorem inv_commit {n : Nat} {h : CH} (I : INV n h) (hH : House h) (F : ∀ i, nN (cCommit h).1 ≤ i → i < 16 → hI (cCommit h).1 (313 + 2 + i) 0 = -1) : INV n (cCommit h).1 := by
  have hF := House_commit hH
  refine inv_KW I ?_
  unfold cCommit at hF F ⊢
  by_cases c1 : hI h 300 14 = 0
  · rw [if_pos c1]
    exact kw_rfl h
  rw [if_neg c1] at hF F ⊢
  by_cases c2 : hI h 334 0 = 0
  · rw [if_pos c2]
    exact kw_rfl h
  rw [if_neg c2] at hF F ⊢
  by_cases c3 : hI h 331 2 + nI (cnt (nwP h) (nN h)) ≤ 10
  · rw [if_pos c3] at hF F ⊢
    exact kw_com2 hH hF F
  rw [if_neg c3] at hF F ⊢
  have k1 := kw_FS 128 0 0 h hH
  by_cases c4 : 0 ≤ (cFS 128 0 0 h).2
  · rw [if_pos c4] at hF F ⊢
    exact k1.trans (kw_com2 (House_FS 128 0 0 h hH) hF F)
  · rw [if_neg c4]
    exact k1
theorem gb_at {h : CH} {f : Nat} : hI (cGoBack h f) f 9 = 0 ∧ ((hI (cGoBack h f) f 2 = hI h f 2 ∧ hI (cGoBack h f) f 0 = hI h f 0) ∨ hI (cGoBack h f) f 2 = 0) := by
  unfold cGoBack
  split
  · refine ⟨?_, Or.inl ⟨?_, ?_⟩⟩
    · rw [hI_nk (by omega), hI_nk (by omega), hI_eq]
    · rw [hI_nk (by omega), hI_nk (by omega), hI_nk (by omega)]
    · rw [hI_nk (by omega), hI_nk (by omega), hI_nk (by omega)]
  · refine ⟨hI_drop0.2.2, Or.inr ?_⟩
    unfold cDrop
    rw [hI_nk (by omega), hI_nk (by omega), hI_nk (by omega), hI_eq]
theorem bk_o {h : CH} {x k : Nat} (q : ¬ (315 ≤ x ∧ x < 331)) : ∀ n, n ≤ 16 → hI (cBk h n) x k = hI h x k
  | 0, _ => rfl
  | n + 1, hn => by
    have ih := bk_o (h := h) (k := k) q n (by omega)
    unfold cBk
    split
    · exact ih
    · rw [hI_goBack (by omega), ih]
theorem bk_9 {h : CH} : ∀ n, n ≤ 16 → ∀ i, i < 16 → (i < n → hI (cBk h n) (313 + 2 + i) 9 = 0) ∧ FrK h (cBk h n) i
  | 0, _, i, hi => ⟨fun q => absurd q (Nat.not_lt_zero _), Or.inl ⟨rfl, rfl⟩⟩
  | n + 1, hn, i, hi => by
    obtain ⟨ih1, ih2⟩ := bk_9 (h := h) n (by omega) i hi
    unfold cBk
    split
    · next c =>
      refine ⟨fun q => ?_, ih2⟩
      by_cases e : i = n
      · rw [e]
        exact c
      · exact ih1 (by omega)
    · by_cases e : i = n
      · subst e
        obtain ⟨g1, g2⟩ := gb_at (h := cBk h i) (f := 313 + 2 + i)
        refine ⟨fun _ => g1, ?_⟩
        unfold FrK at ih2 ⊢
        rcases g2 with ⟨z1, z2⟩ | z
        · rw [z1, z2]
          exact ih2
        · exact Or.inr z
      · unfold FrK at ih2 ⊢
        rw [hI_goBack (by omega), hI_goBack (by omega), hI_goBack (by omega)]
        exact ⟨fun q => ih1 (by omega), ih2⟩
theorem inv_abort {n : Nat} {h : CH} (I : INV n h) (hH : House h) (F : ∀ i, nN (cAbort h).1 ≤ i → i < 16 → hI (cAbort h).1 (313 + 2 + i) 0 = -1) : INV n (cAbort h).1 := by
  have hF := House_abort hH
  have n16 := (Hse_num hH.1).2.2.1
  refine inv_KW I ?_
  unfold cAbort at hF F ⊢
  by_cases c1 : hI h 300 14 = 0
  · rw [if_pos c1]
    exact kw_rfl h
  rw [if_neg c1] at hF F ⊢
  by_cases c2 : hI h 334 0 = 0
  · rw [if_pos c2]
    exact kw_rfl h
  rw [if_neg c2] at hF F ⊢
  dsimp only at hF F ⊢
  have o : ∀ x k, ¬ (315 ≤ x ∧ x < 331) → ¬ x = 334 → hI (sI (sI (cBk h (nN h)) 334 0 0) 334 2 0) x k = hI h x k := fun x k q1 q2 => by
    rw [hI_ne q2, hI_ne q2, bk_o q1 _ n16]
  have en : nN (sI (sI (cBk h (nN h)) 334 0 0) 334 2 0) = nN h := congrArg Int32.toNatClampNeg (o 313 1 (by omega) (by omega))
  have of : ∀ i k, i < 16 → hI (sI (sI (cBk h (nN h)) 334 0 0) 334 2 0) (313 + 2 + i) k = hI (cBk h (nN h)) (313 + 2 + i) k := fun i k hi => by
    rw [hI_ne (by omega), hI_ne (by omega)]
  refine ⟨fun x k p q => o _ _ (by omega) (by omega), ⟨o _ _ (by omega) (by omega), o _ _ (by omega) (by omega)⟩, Or.inr (fz_free (e := h) hF F (hI_eq _ _ _ _) (fun i h1 hi => ?_)), fun i hi => ?_⟩
  · rw [en] at h1
    rw [of i 9 hi]
    exact (bk_9 _ n16 i hi).1 h1
  · have z := (bk_9 (h := h) _ n16 i hi).2
    unfold FrK at z ⊢
    rw [of i 2 hi, of i 0 hi]
    exact z
theorem inv_fail {n : Nat} {h : CH} (I : INV n h) : INV n (cFail h).1 := by
  unfold cFail
  split
  · exact I
  · exact inv_KW I kw_lose
theorem inv_failAt {n : Nat} {h : CH} {x : Int32} (I : INV n h) : INV n (cFailAt h x).1 := by
  unfold cFailAt
  split
  · exact I
  · split
    · exact I
    · exact inv_sI I (by unfold Vt; omega)
theorem inv_checkpoint {n : Nat} {h : CH} (I : INV n h) (hH : House h) : INV n (cCheckpoint h).1 := by
  unfold cCheckpoint
  split
  · exact I
  · exact inv_KW I (kw_FS 128 0 0 h hH)
theorem inv_sync {n : Nat} {h : CH} {x : Int32} (I : INV n h) (hH : House h) : INV n (cSync h x).1 := by
  unfold cSync
  split
  · exact I
  · next a e =>
    split
    · exact I
    · have k1 := kw_FS (a + 16 - stN h a) (stN h a) 0 h hH
      have h1 := House_FS (a + 16 - stN h a) (stN h a) 0 h hH
      unfold cSync2
      split
      · split
        · exact inv_KW I (k1.trans (kw_FS _ _ _ _ h1))
        · exact inv_KW I (k1.trans (kw_FS _ _ _ _ h1))
      · exact inv_KW I k1
theorem inv_powerOn {n : Nat} {h : CH} (I : INV n h) (hH : House h) : INV n (cPowerOn h).1 := by
  unfold cPowerOn
  split
  · exact I
  · have k := inv_KW I (kw_pOn hH 128 (Nat.le_refl _))
    generalize cPOn h 128 = q at k ⊢
    exact k
theorem inv_setFrames {n : Nat} {h : CH} {x : Int32} (I : INV n h) (hH : House h) : INV n (cSetFrames h x).1 := by
  have n16 := (Hse_num hH.1).2.2.1
  unfold cSetFrames
  split
  · exact I
  · split
    · exact I
    · split
      · exact I
      · next c =>
        have kS : KW h (cSF x.toNatClampNeg (nN h - x.toNatClampNeg) h).1 := by
          by_cases q : x.toNatClampNeg ≤ nN h
          · refine kw_SF _ h (by omega) hH (fun j h1 h2 => ?_)
            by_cases z : hI h (313 + 2 + j) 9 = 0
            · exact z
            · exact absurd ⟨j, by omega, h1, Or.inr z⟩ c
          · rw [show nN h - x.toNatClampNeg = 0 by omega]
            exact kw_rfl h
        split
        · refine inv_KW I (kS.trans ?_)
          unfold cResize
          split
          · exact kw_sI (by unfold Vt; omega)
          · exact (kw_sI (by unfold Vt; omega)).trans (kw_sI (by unfold Vt; omega))
        · exact inv_KW I kS
theorem inv_pol {n : Nat} {h : CH} {x : Int32} (I : INV n h) : INV n (cPol h x).1 := by
  unfold cPol
  split
  · exact inv_sI I (by unfold Vt; omega)
  · exact I
theorem inv_setI {n c : Nat} {h : CH} {lo hi x : Int32} (I : INV n h) : INV n (cSetI h c lo hi x).1 := by
  unfold cSetI
  split
  · exact I
  · exact inv_sI I (by unfold Vt; omega)
theorem inv_damage {n : Nat} {h : CH} {x y v : Int32} (I : INV n h) (hH : House h) : INV n (cDamage h x y v).1 := by
  unfold cDamage
  split
  · exact I
  · next sp e =>
    have hs := spo_lt hH e
    split
    · exact I
    · split
      · exact I
      · exact inv_sI I (by unfold Vt; omega)
theorem two_of {x : Int32} (c : ¬ (x < 0 ∨ 2 ≤ x)) : x.toNatClampNeg < 2 := by
  obtain ⟨j, hj, e⟩ := nI_of2 (x := x) (M := 2) (n := 2) (by decide) (fun z => c (Or.inl z)) (Int32.le_of_lt (Int32.not_le.mp (fun z => c (Or.inr z))))
  rw [e, nI_clamp (by omega)]
  rcases Nat.lt_or_ge j 2 with q | q
  · exact q
  · exact absurd (Or.inr (by rw [e]; exact nI_le (a := 2) q (by omega))) c
theorem inv_addFile {n : Nat} {h : CH} {x : Int32} (I : INV n h) : INV n (cAddFile h x).1 := by
  unfold cAddFile
  split
  · exact I
  · next c =>
    have hd := two_of c
    split
    · exact I
    · exact inv_sI (inv_sI (inv_sI (inv_sI I (by unfold Vt; omega)) (by unfold Vt; omega)) (by unfold Vt; omega)) (by unfold Vt; omega)
theorem inv_layBack {n : Nat} {h : CH} {x y : Int32} (I : INV n h) : INV n (cLayBack h x y).1 := by
  unfold cLayBack
  split
  · exact I
  · split
    · exact I
    · next c =>
      split
      · exact I
      · next d =>
        have g0 : hI h 334 0 = 0 := by
          by_cases q : hI h 334 0 = 0
          · exact q
          · exact absurd (Or.inr q) d
        exact inv_KW I (((kw_dropS (I.1.2.2 g0) 16 (by omega)).trans (kw_fgt 64)).trans (kw_take (two_of c) 64))
theorem inv_pin {n : Nat} {h : CH} {x y : Int32} (I : INV n h) (hH : House h) : INV (n + 1) (cPin h x y).1 := by
  have n16 := (Hse_num hH.1).2.2.1
  unfold cPin
  split
  · exact inv_up I (by omega)
  · next sp e =>
    split
    · exact inv_up I (by omega)
    · next i q =>
      have z := lst_some q
      have hsp := spo_lt hH e
      have hi : i < 16 := Nat.lt_of_lt_of_le z.1 n16
      have es : hI h (313 + 2 + i) 0 = nI sp := of_decide_eq_true z.2
      obtain ⟨i1, i2, i3, j, k, i4, i5, i6⟩ := I
      obtain ⟨⟨p, p1, p2⟩, p3⟩ := i2 i hi
      refine ⟨wk_same i1 (hI_ne (by omega)) (hI_ne (by omega)) (fun j hj => hI_nk (by omega)), fun j hj => ?_, tq_cg i3 (fun x k hx => hI_ne (by omega)), j, k, by omega, (hI_ne (by omega)).trans i5, (hI_ne (by omega)).trans i6⟩
      show (∃ q, q ≤ n + 1 ∧ hI (sI h (313 + 2 + i) 2 (hI h (313 + 2 + i) 2 + 1)) (313 + 2 + j) 2 = nI q) ∧ (hI (sI h (313 + 2 + i) 2 (hI h (313 + 2 + i) 2 + 1)) (313 + 2 + j) 0 = -1 → hI (sI h (313 + 2 + i) 2 (hI h (313 + 2 + i) 2 + 1)) (313 + 2 + j) 2 = 0)
      rw [hI_nk (k := 2) (j := 0) (by omega)]
      by_cases e2 : j = i
      · rw [e2, hI_eq, p2, nI_1]
        exact ⟨⟨p + 1, by omega, rfl⟩, fun w => absurd (es.symm.trans w) (nI_n1 (by omega))⟩
      · rw [hI_ne (by omega)]
        obtain ⟨⟨q, q1, q2⟩, q3⟩ := i2 j hj
        exact ⟨⟨q, by omega, q2⟩, q3⟩
theorem inv_unpin {n : Nat} {h : CH} {x y : Int32} (I : INV n h) (hH : House h) (hn : n < 5000) : INV n (cUnpin h x y).1 := by
  have n16 := (Hse_num hH.1).2.2.1
  unfold cUnpin
  split
  · exact I
  · next sp e =>
    split
    · exact I
    · next i q =>
      split
      · exact I
      · next c =>
        have z := lst_some q
        have hsp := spo_lt hH e
        have hi : i < 16 := Nat.lt_of_lt_of_le z.1 n16
        have es : hI h (313 + 2 + i) 0 = nI sp := of_decide_eq_true z.2
        obtain ⟨i1, i2, i3, j, k, i4, i5, i6⟩ := I
        obtain ⟨⟨p, p1, p2⟩, p3⟩ := i2 i hi
        refine ⟨wk_same i1 (hI_ne (by omega)) (hI_ne (by omega)) (fun j hj => hI_nk (by omega)), fun j hj => ?_, tq_cg i3 (fun x k hx => hI_ne (by omega)), j, k, by omega, (hI_ne (by omega)).trans i5, (hI_ne (by omega)).trans i6⟩
        show (∃ q, q ≤ n ∧ hI (sI h (313 + 2 + i) 2 (hI h (313 + 2 + i) 2 - 1)) (313 + 2 + j) 2 = nI q) ∧ (hI (sI h (313 + 2 + i) 2 (hI h (313 + 2 + i) 2 - 1)) (313 + 2 + j) 0 = -1 → hI (sI h (313 + 2 + i) 2 (hI h (313 + 2 + i) 2 - 1)) (313 + 2 + j) 2 = 0)
        rw [hI_nk (k := 2) (j := 0) (by omega)]
        by_cases e2 : j = i
        · obtain ⟨m, rfl⟩ : ∃ m, p = m + 1 := ⟨p - 1, by
            rcases Nat.eq_zero_or_pos p with w | w
            · rw [w] at p2; exact absurd p2 c
            · omega⟩
          rw [e2, hI_eq, p2, nI_pred]
          exact ⟨⟨m, by omega, rfl⟩, fun w => absurd (es.symm.trans w) (nI_n1 (by omega))⟩
        · rw [hI_ne (by omega)]
          obtain ⟨⟨q, q1, q2⟩, q3⟩ := i2 j hj
          exact ⟨⟨q, by omega, q2⟩, q3⟩
