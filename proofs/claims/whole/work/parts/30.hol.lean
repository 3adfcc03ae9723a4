/-! A FRAME WITHOUT A PAGE IS CLEAN AND NOT OF THE WORK -/
def Hol (h : CH) : Prop := ∀ i, i < 16 → hI h (313 + 2 + i) 0 = -1 → hI h (313 + 2 + i) 3 = 0 ∧ hI h (313 + 2 + i) 9 = 0
theorem Hol_cg {h g : CH} (e : ∀ i k, i < 16 → (k = 0 ∨ k = 3 ∨ k = 9) → hI g (313 + 2 + i) k = hI h (313 + 2 + i) k) (H : Hol h) : Hol g := fun i hi => by
  rw [e i 0 hi (by omega), e i 3 hi (by omega), e i 9 hi (by omega)]
  exact H i hi
theorem Hol_sI {h : CH} {a k : Nat} {v : Int32} (H : Hol h) (hf : ¬ (315 ≤ a ∧ a < 331 ∧ (k = 0 ∨ k = 3 ∨ k = 9))) : Hol (sI h a k v) := Hol_cg (fun i x hi hx => by rw [hI_sI, if_neg (by omega)]) H
theorem Hol_s0 {h : CH} {a k : Nat} (H : Hol h) (hk : ¬ k = 0) : Hol (sI h a k 0) := fun i hi e => by
  rw [hI_sI, if_neg (by omega)] at e
  have z := H i hi e
  rw [hI_sI, hI_sI]
  exact ⟨by split; rfl; exact z.1, by split; rfl; exact z.2⟩
/-- a frame with a page may hold anything -/
theorem Hol_sp {h : CH} {i k : Nat} {v : Int32} (H : Hol h) (hi : i < 16) (hp : ¬ hI h (313 + 2 + i) 0 = -1) (hk : ¬ k = 0) : Hol (sI h (313 + 2 + i) k v) := fun j hj e => by
  rw [hI_sI, if_neg (by omega)] at e
  by_cases c : j = i
  · subst c
    exact absurd e hp
  · rw [hI_ne (by omega), hI_ne (by omega)]
    exact H j hj e
theorem hI_drop0 {h : CH} {f : Nat} : hI (cDrop h f) f 0 = -1 ∧ hI (cDrop h f) f 3 = 0 ∧ hI (cDrop h f) f 9 = 0 := by
  unfold cDrop
  exact ⟨by rw [hI_nk (by omega), hI_nk (by omega), hI_nk (by omega), hI_nk (by omega), hI_eq], by rw [hI_nk (by omega), hI_nk (by omega), hI_eq], by rw [hI_eq]⟩
theorem Hol_drop {h : CH} {i : Nat} (H : Hol h) : Hol (cDrop h (313 + 2 + i)) := fun j hj e => by
  by_cases c : j = i
  · subst c
    exact ⟨hI_drop0.2.1, hI_drop0.2.2⟩
  · rw [hI_drop (by omega)] at e
    rw [hI_drop (by omega), hI_drop (by omega)]
    exact H j hj e
theorem Hol_dropA {h : CH} (H : Hol h) : ∀ n, Hol (cDropA h 313 n)
  | 0 => H
  | n + 1 => Hol_drop (Hol_dropA H n)
theorem Hol_lose {h : CH} (H : Hol h) : Hol (cLose h) := Hol_sI (Hol_sI (Hol_dropA (Hol_sI H (by omega)) 16) (by omega)) (by omega)
theorem Hol_tick {h : CH} (H : Hol h) : Hol (cTick h) := Hol_cg (fun i k hi _ => hI_tick (by omega)) H
theorem Hol_rdP {h : CH} {t sp : Nat} (hs : sp < 128) (H : Hol h) : Hol (cRdP h t sp) := Hol_cg (fun i k hi _ => hI_rdP (by omega)) H
theorem Hol_wrP {h : CH} {t sp : Nat} {v : Int32} (hs : sp < 128) (H : Hol h) : Hol (cWrP h t sp v) := Hol_cg (fun i k hi _ => hI_wrP (by omega) (by omega) (by omega) (by omega)) H
theorem hI_forget {h : CH} {la sp a k : Nat} (h1 : ¬ (a = la ∧ k = 2)) (h2 : ¬ a = la + 1) : hI (cForget h la sp) a k = hI h a k := by
  unfold cForget
  split
  · rfl
  · rw [hI_sI, if_neg h1, hI_ne h2]
theorem Hol_forget {h : CH} {sp : Nat} (H : Hol h) : Hol (cForget h 331 sp) := Hol_cg (fun i k hi _ => hI_forget (by omega) (by omega)) H
theorem hI_keep {h : CH} {la sp a k : Nat} {v : Int32} (h1 : ¬ (a = la ∧ k = 2)) (h2 : ¬ a = la + 1) (h3 : ¬ a = la + 2) : hI (cKeep h la sp v) a k = hI h a k := by
  unfold cKeep
  rw [hI_ne h3]
  split
  · rw [hI_sI, if_neg h1, hI_ne h2]
  · rfl
theorem Hol_keep {h : CH} {sp : Nat} {v : Int32} (H : Hol h) : Hol (cKeep h 331 sp v) := Hol_cg (fun i k hi _ => hI_keep (by omega) (by omega) (by omega)) H
theorem Hol_flu {h : CH} {t i sp : Nat} (hs : sp < 128) (H : Hol h) : Hol (cFlu h t (313 + 2 + i) sp) := Hol_forget (Hol_s0 (Hol_wrP hs H) (by omega))
theorem Hol_ev {h : CH} {t i sp : Nat} (hs : ¬ hI h (313 + 2 + i) 3 = 0 → sp < 128) (H : Hol h) : Hol (cEv h t i sp) := by
  unfold cEv
  split
  · exact Hol_drop H
  · next q => exact Hol_drop (Hol_flu (hs q) (Hol_tick H))
theorem Hol_use {h : CH} {i : Nat} (H : Hol h) : Hol (cUse h 313 i) := Hol_sI (Hol_sI (Hol_sI H (by omega)) (by omega)) (by omega)
theorem Hol_come {h : CH} {i : Nat} {s v : Int32} (hi : i < 16) (hs : ¬ s = -1) (H : Hol h) : Hol (cCome h 313 i s v) := by
  have hd := Hol_drop (i := i) H
  have h1 : Hol (sI (cDrop h (313 + 2 + i)) (313 + 2 + i) 0 s) := fun j hj e => by
    by_cases c : j = i
    · subst c
      rw [hI_eq] at e
      exact absurd e hs
    · rw [hI_ne (by omega)] at e
      rw [hI_ne (by omega), hI_ne (by omega)]
      exact hd j hj e
  exact Hol_sI (Hol_use (Hol_sI h1 (by omega))) (by omega)
theorem nI_n1 {n : Nat} (h : n < 128) : ¬ nI n = -1 := fun e => nI_pos (n := n) (by omega) (by rw [e]; decide)
theorem Hol_bring {h : CH} {i sp : Nat} (hi : i < 16) (hs : sp < 128) (H : Hol h) : Hol (cBring h i sp) := Hol_come hi (nI_n1 hs) (Hol_rdP hs H)
theorem Hol_brA1 {h : CH} {i sp : Nat} (hi : i < 16) (hs : sp < 128) (H : Hol h) : Hol (cBrA1 h i sp) := Hol_sI (Hol_sI (Hol_bring hi hs H) (by omega)) (by omega)
theorem Hol_ho {h g : CH} (H : HandOnly h g) (hH : Hol h) : Hol g := Hol_cg (fun i k hi hk => H.2.2.2.1 _ _ (by omega) (by omega)) hH
theorem Hol_brA {h : CH} {sp : Nat} {aside : Int32} (hs : sp < 128) (hH : Hse h) (H : Hol h) : Hol (cBrA h sp aside).1 := by
  have hN := Hse_num hH
  have h16 := hN.2.2.1
  unfold cBrA
  split
  · exact H
  · split
    · next i q => exact Hol_brA1 (by have := (lst_some q).1; omega) hs H
    · have hc := ho_choose (h := h) (n := nN h) (hd := hdN h) (pol := hI h 300 10) (cl := 1) (aside := aside) hN.2.1 hN.2.2.1
      split
      · exact Hol_ho hc H
      · next i q => exact Hol_brA1 (by have := (cChoose_some hN.2.1 hN.2.2.1 q).1; omega) hs (Hol_ho hc H)
theorem Hol_RA {sp blk : Nat} {aside : Int32} (hs : sp + 16 ≤ 128 + blk) : ∀ (m i : Nat) (h : CH), Hse h → Hol h → Hol (cRA sp blk aside m i h)
  | 0, _, h, _, H => H
  | m + 1, i, h, hH, H => by
    unfold cRA
    split
    · exact H
    · next c =>
      have hb : sp + i < 128 := by
        by_cases q : 16 ≤ blk + i
        · exact absurd (Or.inr q) c
        · omega
      split
      · exact Hol_RA hs m (i + 1) h hH H
      · split
        · exact Hol_RA hs m (i + 1) _ (Hse_brA hb hH) (Hol_brA hb hH H)
        · exact Hol_brA hb hH H
theorem Hol_takeF {h : CH} (hH : Hse h) (H : Hol h) : Hol (cTakeF h).1 := by
  have hN := Hse_num hH
  unfold cTakeF
  split
  · exact H
  · have hc := ho_choose (h := h) (n := nN h) (hd := hdN h) (pol := hI h 300 10) (cl := 0) (aside := -1) hN.2.1 hN.2.2.1
    split
    · exact Hol_ho hc H
    · next i q =>
      have hi := (cChoose_some hN.2.1 hN.2.2.1 q)
      have h16 := hN.2.2.1
      have hg := Hse_choose (pol := hI h 300 10) (cl := 0) (aside := -1) hH
      dsimp only
      split
      · exact Hol_lose (Hol_tick (Hol_ho hc H))
      · refine Hol_ev (fun _ => ?_) (Hol_ho hc H)
        rcases Hse_sp hg i (by omega) with e | e
        · exact absurd ((CanGo_ho hc).mpr hi.2).1 (by rw [e]; decide)
        · exact e.2
theorem hI_tadd {h : CH} {n a k : Nat} {v : Int32} (h1 : ¬ (a = 335 ∧ k = 1)) (h2 : ¬ a = 336) : hI (cTAdd h 335 n v) a k = hI h a k := by
  unfold cTAdd
  split
  · rw [hI_sI, if_neg h1, hI_ne h2, hI_sI, if_neg h1, hI_cpI, if_neg h2]
  · rw [hI_sI, if_neg h1, hI_ne h2]
theorem hI_count {h : CH} {f b a k : Nat} {o : Option Nat} (h1 : ¬ (a = 335 ∧ k = 1)) (h2 : ¬ a = 336) (h3 : ¬ a = 358) (h4 : ∀ i, o = some i → ¬ (a = 313 + 2 + i ∧ k = 8)) : hI (cCount h f b o) a k = hI h a k := by
  unfold cCount
  cases o with
  | none => 
    dsimp only
    rw [hI_ne h3, hI_tadd h1 h2]
  | some i =>
    dsimp only
    split
    · rw [hI_ne h3, hI_tadd h1 h2]
    · rw [hI_ne h3, hI_sI, if_neg (h4 i rfl), hI_ne h3, hI_tadd h1 h2]
theorem Hol_count {h : CH} {f b : Nat} {o : Option Nat} (H : Hol h) : Hol (cCount h f b o) := Hol_cg (fun i k hi hk => hI_count (by omega) (by omega) (by omega) (fun j _ => by omega)) H
theorem Hol_rem {h : CH} {i : Nat} {b : Int32} (hi : i < 16) (hp : ¬ hI h (313 + 2 + i) 0 = -1) (H : Hol h) : Hol (cRem h i b) := by
  unfold cRem
  split
  · exact H
  · exact Hol_sI (Hol_sI (Hol_sI (Hol_sI (Hol_sp H hi hp (by omega)) (by omega)) (by omega)) (by omega)) (by omega)
theorem cRem_sp {h : CH} {i j : Nat} {b : Int32} : hI (cRem h i b) (313 + 2 + j) 0 = hI h (313 + 2 + j) 0 := by
  unfold cRem cRemember
  split
  · rfl
  · rw [hI_nk (by omega), hI_nk (by omega), hI_nk (by omega), hI_nk (by omega), hI_nk (by omega)]
theorem Hol_set {h : CH} {i : Nat} {v : Int32} (hi : i < 16) (hp : ¬ hI h (313 + 2 + i) 0 = -1) (H : Hol h) : Hol (cSet h i v) := by
  unfold cSet
  split
  · exact Hol_sI (Hol_sp (Hol_sI H (by omega)) hi (by rw [hI_nk (by omega)]; exact hp) (by omega)) (by omega)
  · exact Hol_sI H (by omega)
theorem Hol_change {h : CH} {i : Nat} {v b : Int32} (hi : i < 16) (hp : ¬ hI h (313 + 2 + i) 0 = -1) (H : Hol h) : Hol (cChange h i v b) := Hol_set hi (by rw [cRem_sp]; exact hp) (Hol_rem hi hp H)
def House (h : CH) : Prop := Hse h ∧ Hol h
theorem House_sp {h : CH} {i : Nat} (H : House h) (hi : i < 16) (hd : ¬ hI h (313 + 2 + i) 3 = 0 ∨ ¬ hI h (313 + 2 + i) 9 = 0) : hI h (313 + 2 + i) 0 = nI (spN h i) ∧ spN h i < 128 := by
  rcases Hse_sp H.1 i hi with e | e
  · exact absurd (H.2 i hi e) (fun z => hd.elim (fun w => w z.1) (fun w => w z.2))
  · exact e
