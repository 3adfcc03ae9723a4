/-! THE CLASS'S OWN INVARIANT: reading, writing, keeping an image, the questions -/
theorem inv_count {n f b : Nat} {h : CH} {o : Option Nat} (I : INV n h) (ho : ∀ i, o = some i → i < 16) : INV (n + 1) (cCount h f b o) := by
  have e : ∀ x k, ¬ (x = 335 ∧ k = 1) → ¬ x = 336 → ¬ x = 358 → (∀ i, o = some i → ¬ (x = 313 + 2 + i ∧ k = 8)) → hI (cCount h f b o) x k = hI h x k := fun x k h1 h2 h3 h4 => hI_count h1 h2 h3 h4
  have ct : ∃ j k, j + k ≤ n + 1 ∧ hI (cCount h f b o) 358 0 = nI j ∧ hI (cCount h f b o) 358 1 = nI k := by
    obtain ⟨-, -, -, j, k, i4, i5, i6⟩ := I
    have g0 : hI (cTAdd h 335 (trN h) (nI (f * 16 + b))) 358 0 = hI h 358 0 := tadd_oth (by omega) (by omega)
    have g1 : hI (cTAdd h 335 (trN h) (nI (f * 16 + b))) 358 1 = hI h 358 1 := tadd_oth (by omega) (by omega)
    unfold cCount
    dsimp only
    generalize cTAdd h 335 (trN h) (nI (f * 16 + b)) = g at g0 g1 ⊢
    cases o with
    | none =>
      refine ⟨j, k + 1, by omega, ?_, ?_⟩
      · dsimp only
        rw [hI_nk (by omega), g0, i5]
      · dsimp only
        rw [hI_eq, g1, i6, nI_1]
    | some i =>
      refine ⟨j + 1, k, by omega, ?_, ?_⟩
      · dsimp only
        split
        · rw [hI_eq, g0, i5, nI_1]
        · rw [hI_nk (by omega), hI_ne (by have := ho i rfl; omega), hI_eq, g0, i5, nI_1]
      · dsimp only
        split
        · rw [hI_nk (by omega), g1, i6]
        · rw [hI_nk (by omega), hI_ne (by have := ho i rfl; omega), hI_nk (by omega), g1, i6]
  have e2 : ∀ x k, ¬ (x = 335 ∧ k = 1) → ¬ x = 336 → ¬ x = 358 → ¬ k = 8 → hI (cCount h f b o) x k = hI h x k := fun x k h1 h2 h3 h4 => e x k h1 h2 h3 (fun i _ z => h4 z.2)
  have e3 : ∀ x k, 340 ≤ x → x < 358 → hI (cCount h f b o) x k = hI h x k := fun x k h1 h2 => e x k (by omega) (by omega) (by omega) (fun i q z => by have := ho i q; omega)
  refine ⟨wk_same I.1 (e2 _ _ (by omega) (by omega) (by omega) (by omega)) (e2 _ _ (by omega) (by omega) (by omega) (by omega)) (fun i hi => e2 _ _ (by omega) (by omega) (by omega) (by omega)), fun i hi => ?_, tq_cg I.2.2.1 (fun x k hx => e3 _ _ (by omega) (by omega)), ct⟩
  rw [e2 _ _ (by omega) (by omega) (by omega) (by omega), e2 _ _ (by omega) (by omega) (by omega) (by omega)]
  exact (inv_up I (m := n + 1) (by omega)).2.1 i hi
theorem inv_read {n : Nat} {h : CH} {x y : Int32} (I : INV n h) (hH : House h) : INV (n + 1) (cRead h x y).1 := by
  have h16 := (Hse_num hH.1).2.2.1
  unfold cRead
  split
  · exact inv_up I (by omega)
  · next sp e =>
    have hsp := spo_lt hH e
    split
    · exact inv_up I (by omega)
    · unfold cRd1
      have ho : ∀ i, lst (atP h 313 (nI sp)) (nN h) = some i → i < 16 := fun i e => by have := (lst_some e).1; omega
      generalize lst (atP h 313 (nI sp)) (nN h) = o at ho ⊢
      split
      · exact inv_up I (by omega)
      · have hG : House (sI (cCount h x.toNatClampNeg y.toNatClampNeg o) 312 x.toNatClampNeg (nI y.toNatClampNeg)) := House_sI (House_count ho hH) (OkC_of (by omega)) (by omega)
        have I2 : INV (n + 1) (sI (cCount h x.toNatClampNeg y.toNatClampNeg o) 312 x.toNatClampNeg (nI y.toNatClampNeg)) := inv_sI (inv_count I ho) (by unfold Vt; omega)
        generalize sI (cCount h x.toNatClampNeg y.toNatClampNeg o) 312 x.toNatClampNeg (nI y.toNatClampNeg) = g at hG I2 ⊢
        cases o with
        | some i => exact inv_KW I2 (kw_use (ho i rfl))
        | none =>
          unfold cRd2
          dsimp only
          have hT := House_takeF hG
          obtain ⟨kT, kT2⟩ := kw_takeF hG
          split
          · exact inv_KW I2 kT
          · next i e =>
            obtain ⟨hi, h9⟩ := kT2 i e
            refine inv_KW I2 (kT.trans ?_)
            unfold cRd3
            split
            · exact (kw_bring hi (by omega) h9).trans (kw_RA hsp.1 16 1 _ (House_bring hi (by omega) hT))
            · exact kw_bring hi (by omega) h9
theorem inv_rem {n i : Nat} {g : CH} {b : Int32} (I : INV n g) (hi : i < 16) (hg : hI g 334 2 < 6 ∨ ¬ hI g (313 + 2 + i) 9 = 0) : INV n (cRem g i b) := by
  unfold cRem
  split
  · exact I
  · next c =>
    have c9 : hI g (313 + 2 + i) 9 = 0 := by
      by_cases q : hI g (313 + 2 + i) 9 = 0
      · exact q
      · exact absurd (Or.inr q) c
    have c0 : ¬ hI g 334 0 = 0 := fun q => c (Or.inl q)
    have o : ∀ x k, ¬ (x = 313 + 2 + i ∧ 9 ≤ k) → ¬ (x = 334 ∧ k = 2) → hI (sI (cRemember g (313 + 2 + i) b) 334 2 (hI g 334 2 + 1)) x k = hI g x k := fun x k q1 q2 => by
      unfold cRemember
      rw [hI_sI, if_neg q2, hI_sI, if_neg (by omega), hI_sI, if_neg (by omega), hI_sI, if_neg (by omega), hI_sI, if_neg (by omega)]
    have o9 : hI (sI (cRemember g (313 + 2 + i) b) 334 2 (hI g 334 2 + 1)) (313 + 2 + i) 9 = 1 := by
      unfold cRemember
      rw [hI_ne (by omega), hI_nk (by omega), hI_nk (by omega), hI_nk (by omega), hI_eq]
    have o2 : hI (sI (cRemember g (313 + 2 + i) b) 334 2 (hI g 334 2 + 1)) 334 2 = hI g 334 2 + 1 := hI_eq _ _ _ _
    generalize sI (cRemember g (313 + 2 + i) b) 334 2 (hI g 334 2 + 1) = G at o o9 o2 ⊢
    refine ⟨?_, inv_P I (fun x k p q => o _ _ (by omega) (by omega)) ⟨o _ _ (by omega) (by omega), o _ _ (by omega) (by omega)⟩ (fun j hj => Or.inl ⟨o _ _ (by omega) (by omega), o _ _ (by omega) (by omega)⟩)⟩
    obtain ⟨w1, w2, w3⟩ := I.1
    have cc : cnt (wkP G 313) 16 = cnt (wkP g 313) 16 + 1 := cnt_less (s := i) hi (by
      unfold wkP
      rw [o9]
      exact decide_eq_true (by decide)) (by
      unfold wkP
      rw [c9]
      exact decide_eq_false (fun w => w rfl)) (fun j hj ne => by
      unfold wkP
      rw [o _ _ (by omega) (by omega)])
    have h6 : cnt (wkP g 313) 16 < 6 := by
      rcases hg with q | q
      · rw [w1] at q
        exact (nI_ltI (b := 6) (by omega) (by omega)).mp q
      · exact absurd c9 q
    unfold WkI
    rw [cc, o2, o 334 0 (by omega) (by omega), w1, nI_1]
    exact ⟨rfl, by omega, fun q => absurd q c0⟩
theorem inv_change {n i : Nat} {g : CH} {v b : Int32} (I : INV n g) (hi : i < 16) (hg : hI g 334 2 < 6 ∨ ¬ hI g (313 + 2 + i) 9 = 0) : INV n (cChange g i v b) := inv_KW (inv_rem I hi hg) (kw_set hi)
theorem inv_write {n : Nat} {h : CH} {x y v : Int32} (I : INV n h) (hH : House h) : INV (n + 1) (cWrite h x y v).1 := by
  have h16 := (Hse_num hH.1).2.2.1
  unfold cWrite
  split
  · exact inv_up I (by omega)
  · next sp e =>
    have hsp := spo_lt hH e
    have hs : sp < 128 := by omega
    split
    · exact inv_up I (by omega)
    · split
      · exact inv_up I (by omega)
      · unfold cWr1
        have ho : ∀ i, lst (atP h 313 (nI sp)) (nN h) = some i → i < 16 ∧ hI h (313 + 2 + i) 0 = nI sp := fun i e => by
          have z := lst_some e
          exact ⟨by omega, of_decide_eq_true z.2⟩
        generalize lst (atP h 313 (nI sp)) (nN h) = o at ho ⊢
        split
        · exact inv_up I (by omega)
        · next cm =>
          have cm2 : ¬ cMany h o = true := fun q => cm (Or.inr q)
          have hG := House_count (f := x.toNatClampNeg) (b := y.toNatClampNeg) (fun i e => (ho i e).1) hH
          have I2 := inv_count (f := x.toNatClampNeg) (b := y.toNatClampNeg) I (fun i e => (ho i e).1)
          have esp : ∀ i k, i < 16 → ¬ k = 8 → hI (cCount h x.toNatClampNeg y.toNatClampNeg o) (313 + 2 + i) k = hI h (313 + 2 + i) k := fun i k hi hk => hI_count (by omega) (by omega) (by omega) (fun j _ => by omega)
          have e334 : hI (cCount h x.toNatClampNeg y.toNatClampNeg o) 334 2 = hI h 334 2 := hI_count (by omega) (by omega) (by omega) (fun j _ => by omega)
          generalize cCount h x.toNatClampNeg y.toNatClampNeg o = g at hG esp e334 I2 ⊢
          cases o with
          | some i =>
            obtain ⟨hi, es⟩ := ho i rfl
            have cm3 : ¬ (¬ hI h 334 2 < 6 ∧ hI h (313 + 2 + i) 9 = 0) := fun q => cm2 (decide_eq_true q)
            have hU := House_use hi hG
            have eu : ∀ x k, ¬ (x = 313 ∧ k = 3) → ¬ (x = 313 + 2 + i ∧ (k = 5 ∨ k = 7)) → hI (cUse g 313 i) x k = hI g x k := fun x k q1 q2 => by
              unfold cUse
              rw [hI_sI, if_neg (by omega), hI_sI, if_neg (by omega), hI_sI, if_neg q1]
            have gd : hI (cUse g 313 i) 334 2 < 6 ∨ ¬ hI (cUse g 313 i) (313 + 2 + i) 9 = 0 := by
              rw [eu _ _ (by omega) (by omega), eu _ _ (by omega) (by omega), e334, esp i 9 hi (by omega)]
              by_cases q : hI h 334 2 < 6
              · exact Or.inl q
              · exact Or.inr (fun w => cm3 ⟨q, w⟩)
            have I3 := inv_change (v := v) (b := 0) (inv_KW I2 (kw_use hi)) hi gd
            have hC := House_change (i := i) (v := v) (b := 0) hi (by rw [sp_use, esp i 0 hi (by omega), es]; exact nI_n1 hs) hU
            exact inv_KW I3 (kw_wait 16 0 _ hC)
          | none =>
            have cm3 : hI h 334 2 < 6 := by
              by_cases q : hI h 334 2 < 6
              · exact q
              · exact absurd (decide_eq_true q) cm2
            unfold cWr2
            dsimp only
            have hT := House_takeF hG
            obtain ⟨kT, kT2⟩ := kw_takeF hG
            split
            · exact inv_KW I2 kT
            · next i e =>
              obtain ⟨hi, h9⟩ := kT2 i e
              have kc := kT.trans (kw_come (s := nI sp) (v := v) hi h9)
              have hC := House_come (v := v) hi hs hT
              have gd : hI (cCome (cTakeF g).1 313 i (nI sp) v) 334 2 < 6 := by
                rcases kc.2.2.1 with ⟨_, z, _⟩ | z
                · rw [z, e334]
                  exact cm3
                · rw [z.1]
                  decide
              have I3 := inv_change (v := v) (b := 1) (inv_KW I2 kc) hi (Or.inl gd)
              exact inv_KW I3 (kw_wait 16 0 _ (House_change hi (by rw [sp_come]; exact nI_n1 hs) hC))
theorem inv_keepI {n : Nat} {h : CH} {x : Int32} (I : INV n h) (hn : 361 ≤ hN h) : INV n (cKeepI h x).1 := by
  unfold cKeepI
  split
  · exact I
  · split
    · exact I
    · refine inv_KW I (kw_same (fun y k w => ?_))
      have hy : y < 361 := by unfold Vt at w; omega
      have hy3 : ¬ y = 300 := by unfold Vt at w; omega
      have n1 : hN (nw h (8, 0)) = hN h + 1 := rfl
      dsimp only
      rw [hI_ne hy3, hI_sR]
      unfold kp4
      rw [hI_sR, hI_sR, hI_ne (by omega)]
      unfold kp3
      rw [Ic_o (by show y < hN h + 1 + 1; omega), Ic_o (by show y < hN h + 1; omega), I_o (by omega)]
theorem inv_missesBy {n m : Nat} {h b : CH} {x y : Int32} (I : INV n h) (R : RR m h b) : INV n (cMissesBy h x y).1 := by
  unfold cMissesBy
  split
  · exact I
  · split
    · exact I
    · next c =>
      obtain ⟨j, j1, j2⟩ := in_nI (n := 16) (M := 16) (lo := 1) (x := y) (by decide) (by decide) (fun z => c (Or.inl z)) (fun z => c (Or.inr z))
      have ej : y.toNatClampNeg = j := by rw [j2]; exact nI_clamp (by omega)
      have j3 : 1 ≤ j := by
        rcases Nat.eq_zero_or_pos j with z | z
        · subst z; subst j2; exact absurd (show nI 0 < 1 by decide) (fun z => c (Or.inl z))
        · exact z
      rw [ej]
      exact inv_tro I (tro_trM j3 j1) (tq_trM I.2.2.1 R.tr.1 (LT_of R).2.2 j3 j1)
theorem cff_tro {x : Int32} : ∀ (m i : Nat) (h : CH), 1 ≤ i → i + m = 17 → TQ h → TrP h → trN h ≤ 100 → TrO h (cFF x m i h).1 ∧ TQ (cFF x m i h).1
  | 0, i, h, h1, e, T, P, L => ⟨tro_rfl h, T⟩
  | m + 1, i, h, h1, e, T, P, L => by
    have O := tro_trM (h := h) (pol := 98) h1 (show i ≤ 16 by omega)
    have T' := tq_trM (pol := 98) T P L h1 (show i ≤ 16 by omega)
    unfold cFF
    split
    · exact ⟨O, T'⟩
    · have z := cff_tro (x := x) m (i + 1) (trM h 98 i).1 (by omega) (by omega) T' (TrP_tro O P) (by rw [trN_tro O]; exact L)
      exact ⟨O.trans z.1, z.2⟩
theorem inv_framesFor {n m : Nat} {h b : CH} {x : Int32} (I : INV n h) (R : RR m h b) : INV n (cFramesFor h x).1 := by
  unfold cFramesFor
  split
  · exact I
  · have z := cff_tro (x := x) 16 1 h (by omega) (by omega) I.2.2.1 R.tr.1 (LT_of R).2.2
    exact inv_tro I z.1 z.2
