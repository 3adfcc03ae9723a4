/-! WHAT THE CLASS ALONE KEEPS: the marks of the transaction, the pins, the trace's pool, the counts -/
def Fz (g : CH) : Prop := hI g 334 2 = 0 ∧ ∀ i, i < 16 → hI g (313 + 2 + i) 9 = 0
def WE (h g : CH) : Prop := (hI g 334 0 = hI h 334 0 ∧ hI g 334 2 = hI h 334 2 ∧ ∀ i, i < 16 → hI g (313 + 2 + i) 9 = hI h (313 + 2 + i) 9) ∨ Fz g
def FrK (h g : CH) (i : Nat) : Prop := (hI g (313 + 2 + i) 2 = hI h (313 + 2 + i) 2 ∧ hI g (313 + 2 + i) 0 = hI h (313 + 2 + i) 0) ∨ hI g (313 + 2 + i) 2 = 0
def KW (h g : CH) : Prop := (∀ x k, 340 ≤ x → x < 358 → hI g x k = hI h x k) ∧ (hI g 358 0 = hI h 358 0 ∧ hI g 358 1 = hI h 358 1) ∧ WE h g ∧ ∀ i, i < 16 → FrK h g i
theorem kw_rfl (h : CH) : KW h h := ⟨fun _ _ _ _ => rfl, ⟨rfl, rfl⟩, Or.inl ⟨rfl, rfl, fun _ _ => rfl⟩, fun _ _ => Or.inl ⟨rfl, rfl⟩⟩
theorem KW.trans {h g f : CH} (H : KW h g) (G : KW g f) : KW h f := by
  obtain ⟨a1, a2, a3, a4⟩ := H
  obtain ⟨b1, b2, b3, b4⟩ := G
  refine ⟨fun x k p q => (b1 x k p q).trans (a1 x k p q), ⟨b2.1.trans a2.1, b2.2.trans a2.2⟩, ?_, fun i hi => ?_⟩
  · rcases b3 with ⟨z0, z1, z2⟩ | z
    · rcases a3 with ⟨w0, w1, w2⟩ | w
      · exact Or.inl ⟨z0.trans w0, z1.trans w1, fun i hi => (z2 i hi).trans (w2 i hi)⟩
      · exact Or.inr ⟨z1.trans w.1, fun i hi => (z2 i hi).trans (w.2 i hi)⟩
    · exact Or.inr z
  · rcases b4 i hi with ⟨z1, z2⟩ | z
    · rcases a4 i hi with ⟨w1, w2⟩ | w
      · exact Or.inl ⟨z1.trans w1, z2.trans w2⟩
      · exact Or.inr (z1.trans w)
    · exact Or.inr z
/-- the cells that matter here -/
def Vt (x k : Nat) : Prop := (340 ≤ x ∧ x < 358) ∨ (x = 358 ∧ k ≤ 1) ∨ (315 ≤ x ∧ x < 331 ∧ (k = 0 ∨ k = 2 ∨ k = 9)) ∨ (x = 334 ∧ (k = 0 ∨ k = 2))
theorem kw_same {h g : CH} (e : ∀ x k, Vt x k → hI g x k = hI h x k) : KW h g :=
  ⟨fun x k p q => e x k (Or.inl ⟨p, q⟩), ⟨e _ _ (Or.inr (Or.inl (by omega))), e _ _ (Or.inr (Or.inl (by omega)))⟩, Or.inl ⟨e _ _ (Or.inr (Or.inr (Or.inr (by omega)))), e _ _ (Or.inr (Or.inr (Or.inr (by omega)))), fun i hi => e _ _ (Or.inr (Or.inr (Or.inl (by omega))))⟩, fun i hi => Or.inl ⟨e _ _ (Or.inr (Or.inr (Or.inl (by omega)))), e _ _ (Or.inr (Or.inr (Or.inl (by omega))))⟩⟩
theorem kw_sI {h : CH} {a k : Nat} {v : Int32} (q : ¬ Vt a k) : KW h (sI h a k v) := kw_same (fun x j w => by rw [hI_sI, if_neg (fun z => q (by rw [← z.1, ← z.2]; exact w))])
theorem kw_sJ {h : CH} {a k : Nat} {v : Int64} : KW h (sJ h a k v) := kw_same (fun _ _ _ => rfl)
theorem kw_rdP {h : CH} {t sp : Nat} (hs : sp < 128) : KW h (cRdP h t sp) := kw_same (fun x k w => hI_rdP (by unfold Vt at w; omega))
theorem kw_put {h : CH} {d p : Nat} {v : Int32} (hd : d < 2) : KW h (cPut h (302 + 4 * d) p v) := ((kw_sI (by unfold Vt; omega)).trans (kw_sI (by unfold Vt; omega))).trans (kw_sI (by unfold Vt; omega))
theorem kw_wrP {h : CH} {t sp : Nat} {v : Int32} (hs : sp < 128) : KW h (cWrP h t sp v) := (kw_rdP hs).trans (kw_put (by omega))
theorem kw_tick {h : CH} : KW h (cTick h) := by
  unfold cTick
  split
  · exact kw_rfl h
  · exact kw_sI (by unfold Vt; omega)
theorem kw_forget {h : CH} {sp : Nat} : KW h (cForget h 331 sp) := kw_same (fun x k w => hI_forget (by unfold Vt at w; omega) (by unfold Vt at w; omega))
theorem kw_flu {h : CH} {t i sp : Nat} (hi : i < 16) (hs : sp < 128) : KW h (cFlu h t (313 + 2 + i) sp) := ((kw_wrP hs).trans (kw_sI (by unfold Vt; omega))).trans kw_forget
theorem kw_drop {h : CH} {i : Nat} (hi : i < 16) (h9 : hI h (313 + 2 + i) 9 = 0) : KW h (cDrop h (313 + 2 + i)) := by
  have o : ∀ x k, ¬ x = 313 + 2 + i → hI (cDrop h (313 + 2 + i)) x k = hI h x k := fun x k q => hI_drop q
  have d2 : hI (cDrop h (313 + 2 + i)) (313 + 2 + i) 2 = 0 := by unfold cDrop; rw [hI_nk (by omega), hI_nk (by omega), hI_nk (by omega), hI_eq]
  refine ⟨fun x k p q => o _ _ (by omega), ⟨o _ _ (by omega), o _ _ (by omega)⟩, Or.inl ⟨o _ _ (by omega), o _ _ (by omega), fun j hj => ?_⟩, fun j hj => ?_⟩
  · by_cases e : j = i
    · subst e
      rw [hI_drop0.2.2, h9]
    · exact o _ _ (by omega)
  · by_cases e : j = i
    · subst e
      exact Or.inr d2
    · exact Or.inl ⟨o _ _ (by omega), o _ _ (by omega)⟩
theorem kw_lose {h : CH} : KW h (cLose h) := by
  have o : ∀ x k, ¬ (315 ≤ x ∧ x < 331) → ¬ x = 334 → ¬ (x = 300 ∧ k = 14) → hI (cLose h) x k = hI h x k := fun x k q1 q2 q3 => by
    unfold cLose
    rw [hI_ne q2, hI_ne q2, hI_dropA, if_neg (by omega), hI_sI, if_neg q3]
  have z : ∀ i k, i < 16 → (k = 2 ∨ k = 9) → hI (cLose h) (313 + 2 + i) k = 0 := fun i k hi hk => by
    unfold cLose
    rw [hI_ne (by omega), hI_ne (by omega), hI_dropA, if_pos (by omega), if_neg (by omega)]
  refine ⟨fun x k p q => o _ _ (by omega) (by omega) (by omega), ⟨o _ _ (by omega) (by omega) (by omega), o _ _ (by omega) (by omega) (by omega)⟩, Or.inr ⟨?_, fun i hi => z i 9 hi (by omega)⟩, fun i hi => Or.inr (z i 2 hi (by omega))⟩
  unfold cLose
  rw [hI_eq]
theorem kw_9 {h g : CH} (K : KW h g) {i : Nat} (hi : i < 16) (h9 : hI h (313 + 2 + i) 9 = 0) : hI g (313 + 2 + i) 9 = 0 := by
  rcases K.2.2.1 with ⟨_, _, z⟩ | z
  · rw [z i hi]; exact h9
  · exact z.2 i hi
theorem kw_ev {h : CH} {t i sp : Nat} (hi : i < 16) (hs : ¬ hI h (313 + 2 + i) 3 = 0 → sp < 128) (h9 : hI h (313 + 2 + i) 9 = 0) : KW h (cEv h t i sp) := by
  unfold cEv
  split
  · exact kw_drop hi h9
  · next c =>
    have k1 := (kw_tick (h := h)).trans (kw_flu (t := t) hi (hs c))
    exact k1.trans (kw_drop hi (kw_9 k1 hi h9))
theorem kw_fl {h : CH} {i : Nat} (hi : i < 16) (hs : spN h i < 128) : KW h (cFl h i).1 := by
  unfold cFl
  split
  · exact kw_tick.trans kw_lose
  · exact kw_tick.trans (kw_flu hi hs)
theorem hou_sp {h : CH} {i : Nat} (hH : House h) (hi : i < 16) (hd : ¬ hI h (313 + 2 + i) 3 = 0 ∨ ¬ hI h (313 + 2 + i) 9 = 0) : spN h i < 128 := (House_sp hH hi hd).2
theorem kw_wait : ∀ (m w : Nat) (h : CH), House h → KW h (cWait m w h).1
  | 0, w, h, hH => kw_rfl h
  | m + 1, w, h, hH => by
    have h16 := (Hse_num hH.1).2.2.1
    unfold cWait
    split
    · exact kw_rfl h
    · split
      · exact kw_rfl h
      · next i q =>
        have z := cLong_lt q
        have hf := House_fl hH (i := i) (by omega) (Or.inl z.2.1)
        have kf := kw_fl (h := h) (i := i) (by omega) (hou_sp hH (by omega) (Or.inl z.2.1))
        split
        · exact (kf.trans (kw_sI (by unfold Vt; omega))).trans (kw_wait m (w + 1) _ (House_sI hf (OkC_of (by omega)) (by omega)))
        · exact kf
theorem kw_FS : ∀ (m s w : Nat) (h : CH), House h → KW h (cFS m s w h).1
  | 0, s, w, h, hH => kw_rfl h
  | m + 1, s, w, h, hH => by
    have h16 := (Hse_num hH.1).2.2.1
    unfold cFS
    split
    · exact kw_FS m (s + 1) w h hH
    · next i q =>
      have z := lst_some q
      split
      · next c =>
        have hf := House_fl hH (i := i) (by omega) (Or.inl c.1)
        have kf := kw_fl (h := h) (i := i) (by omega) (hou_sp hH (by omega) (Or.inl c.1))
        split
        · exact kf.trans (kw_FS m (s + 1) (w + 1) _ hf)
        · exact kf
      · exact kw_FS m (s + 1) w h hH
theorem kw_evF {h : CH} {i : Nat} (hH : House h) (hi : i < 16) (h9 : hI h (313 + 2 + i) 9 = 0) : KW h (cEvF h i).1 := by
  unfold cEvF
  split
  · exact kw_tick.trans kw_lose
  · exact kw_ev hi (fun c => hou_sp hH hi (Or.inl c)) h9
theorem kw_SF {f : Nat} : ∀ (m : Nat) (h : CH), f + m ≤ 16 → House h → (∀ j, f ≤ j → j < f + m → hI h (313 + 2 + j) 9 = 0) → KW h (cSF f m h).1
  | 0, h, hf, hH, h9 => kw_rfl h
  | m + 1, h, hf, hH, h9 => by
    have k1 := kw_evF hH (i := f + m) (by omega) (h9 (f + m) (by omega) (by omega))
    unfold cSF
    split
    · exact k1.trans (kw_SF m _ (by omega) (House_evF hH (by omega)) (fun j h1 h2 => kw_9 k1 (by omega) (h9 j h1 (by omega))))
    · exact k1
theorem kw_ho {h g : CH} (H : HandOnly h g) : KW h g := kw_same (fun x k w => H.2.2.2.1 _ _ (by unfold Vt at w; omega) (by unfold Vt at w; omega))
theorem kw_come {h : CH} {i : Nat} {s v : Int32} (hi : i < 16) (h9 : hI h (313 + 2 + i) 9 = 0) : KW h (cCome h 313 i s v) := by
  have o : ∀ x k, ¬ x = 313 + 2 + i → ¬ (x = 313 ∧ k = 3) → hI (cCome h 313 i s v) x k = hI h x k := fun x k q1 q2 => hI_come q1 q2
  refine ⟨fun x k p q => o _ _ (by omega) (by omega), ⟨o _ _ (by omega) (by omega), o _ _ (by omega) (by omega)⟩, Or.inl ⟨o _ _ (by omega) (by omega), o _ _ (by omega) (by omega), fun j hj => ?_⟩, fun j hj => ?_⟩
  · by_cases e : j = i
    · subst e
      rw [come_row hi, h9]
      rfl
    · exact o _ _ (by omega) (by omega)
  · by_cases e : j = i
    · subst e
      exact Or.inr (by rw [come_row hi]; rfl)
    · exact Or.inl ⟨o _ _ (by omega) (by omega), o _ _ (by omega) (by omega)⟩
theorem kw_bring {h : CH} {i sp : Nat} (hi : i < 16) (hs : sp < 128) (h9 : hI h (313 + 2 + i) 9 = 0) : KW h (cBring h i sp) := (kw_rdP hs).trans (kw_come hi (by rw [hI_rdP (by omega)]; exact h9))
theorem kw_brA1 {h : CH} {i sp : Nat} (hi : i < 16) (hs : sp < 128) (h9 : hI h (313 + 2 + i) 9 = 0) : KW h (cBrA1 h i sp) := ((kw_bring hi hs h9).trans (kw_sI (by unfold Vt; omega))).trans (kw_sI (by unfold Vt; omega))
theorem hol_9 {h : CH} (hH : House h) {i : Nat} (hi : i < 16) (e : hI h (313 + 2 + i) 0 = -1) : hI h (313 + 2 + i) 9 = 0 := (hH.2 i hi e).2
theorem kw_brA {h : CH} {sp : Nat} {aside : Int32} (hs : sp < 128) (hH : House h) : KW h (cBrA h sp aside).1 := by
  have hN := Hse_num hH.1
  unfold cBrA
  split
  · exact kw_rfl h
  · split
    · next i q =>
      have z := lst_some q
      have hi : i < 16 := Nat.lt_of_lt_of_le z.1 hN.2.2.1
      exact kw_brA1 hi hs (hol_9 hH hi (of_decide_eq_true z.2))
    · have H := ho_choose (h := h) (n := nN h) (hd := hdN h) (pol := hI h 300 10) (cl := 1) (aside := aside) hN.2.1 hN.2.2.1
      split
      · exact kw_ho H
      · next i q =>
        have z := cChoose_some hN.2.1 hN.2.2.1 q
        have hi : i < 16 := Nat.lt_of_lt_of_le z.1 hN.2.2.1
        exact (kw_ho H).trans (kw_brA1 hi hs (kw_9 (kw_ho H) hi z.2.2.2.1))
theorem House_brA {h : CH} {sp : Nat} {aside : Int32} (hs : sp < 128) (hH : House h) : House (cBrA h sp aside).1 := ⟨Hse_brA hs hH.1, Hol_brA hs hH.1 hH.2⟩
theorem kw_RA {sp blk : Nat} {aside : Int32} (hs : sp + 16 ≤ 128 + blk) : ∀ (m i : Nat) (h : CH), House h → KW h (cRA sp blk aside m i h)
  | 0, _, h, hH => kw_rfl h
  | m + 1, i, h, hH => by
    unfold cRA
    split
    · exact kw_rfl h
    · next c =>
      have hb : sp + i < 128 := by
        by_cases q : 16 ≤ blk + i
        · exact absurd (Or.inr q) c
        · omega
      split
      · exact kw_RA hs m (i + 1) h hH
      · split
        · exact (kw_brA hb hH).trans (kw_RA hs m (i + 1) _ (House_brA hb hH))
        · exact kw_brA hb hH
theorem kw_takeF {h : CH} (hH : House h) : KW h (cTakeF h).1 ∧ ∀ i, (cTakeF h).2 = some i → i < 16 ∧ hI (cTakeF h).1 (313 + 2 + i) 9 = 0 := by
  have hN := Hse_num hH.1
  unfold cTakeF
  split
  · next i q =>
    refine ⟨kw_rfl h, fun j e => ?_⟩
    cases e
    have z := lst_some q
    have hi : i < 16 := Nat.lt_of_lt_of_le z.1 hN.2.2.1
    exact ⟨hi, hol_9 hH hi (of_decide_eq_true z.2)⟩
  · have H := ho_choose (h := h) (n := nN h) (hd := hdN h) (pol := hI h 300 10) (cl := 0) (aside := -1) hN.2.1 hN.2.2.1
    split
    · exact ⟨kw_ho H, fun j e => by cases e⟩
    · next i q =>
      have z := cChoose_some hN.2.1 hN.2.2.1 q
      have hi : i < 16 := Nat.lt_of_lt_of_le z.1 hN.2.2.1
      have hg := Hse_choose (pol := hI h 300 10) (cl := 0) (aside := -1) hH.1
      dsimp only
      split
      · exact ⟨(kw_ho H).trans (kw_tick.trans kw_lose), fun j e => by cases e⟩
      · have k2 := (kw_ho H).trans (kw_ev (t := tN h) (sp := spN (cChoose h 313 (nN h) (hdN h) (hI h 300 10) 0 (-1)).1 i) hi (fun _ => by
          rcases Hse_sp hg i hi with e | e
          · exact absurd ((CanGo_ho H).mpr z.2).1 (by rw [e]; decide)
          · exact e.2) (kw_9 (kw_ho H) hi z.2.2.2.1))
        refine ⟨k2, fun j e => ?_⟩
        cases e
        exact ⟨hi, kw_9 k2 hi z.2.2.2.1⟩
theorem kw_use {h : CH} {i : Nat} (hi : i < 16) : KW h (cUse h 313 i) := ((kw_sI (by unfold Vt; omega)).trans (kw_sI (by unfold Vt; omega))).trans (kw_sI (by unfold Vt; omega))
theorem kw_set {h : CH} {i : Nat} {v : Int32} (hi : i < 16) : KW h (cSet h i v) := by
  unfold cSet
  split
  · exact ((kw_sI (by unfold Vt; omega)).trans (kw_sI (by unfold Vt; omega))).trans (kw_sI (by unfold Vt; omega))
  · exact kw_sI (by unfold Vt; omega)
theorem kw_pOn {h : CH} (hH : House h) : ∀ n, n ≤ 128 → KW h (cPOn h n).1
  | 0, _ => kw_sI (by unfold Vt; omega)
  | n + 1, hn => by
    have ih := kw_pOn hH n (by omega)
    unfold cPOn
    split
    · exact ih
    · exact ih.trans ((kw_wrP (by omega)).trans kw_forget)
theorem kw_fgt {h : CH} {a : Nat} : ∀ n, KW h (cFgt h a n)
  | 0 => kw_rfl h
  | n + 1 => (kw_fgt n).trans kw_forget
theorem kw_take {h : CH} {d a b : Nat} (hd : d < 2) : ∀ n, KW h (cTake h (302 + 4 * d) a b n)
  | 0 => kw_rfl h
  | n + 1 => ((kw_take hd n).trans (kw_sI (by unfold Vt; omega))).trans (kw_sI (by unfold Vt; omega))
theorem kw_dropS {h : CH} {x y : Int32} (h9 : ∀ i, i < 16 → hI h (313 + 2 + i) 9 = 0) : ∀ n, n ≤ 16 → KW h (cDropS h 313 x y n)
  | 0, _ => kw_rfl h
  | n + 1, hn => by
    have ih := kw_dropS (x := x) (y := y) h9 n (by omega)
    unfold cDropS
    split
    · exact ih.trans (kw_drop (by omega) (kw_9 ih (by omega) (h9 n (by omega))))
    · exact ih
