/-! THE HOUSE'S NUMBERS: cell by cell, kept by every step -/
def OkC (a k : Nat) (v : Int32) : Prop :=
  (a = 313 ∧ k = 1 → ∃ n, 1 ≤ n ∧ n ≤ 16 ∧ v = nI n) ∧ (a = 313 ∧ k = 2 → ∃ n, n ≤ 16 ∧ v = nI n) ∧ (a = 300 ∧ k = 13 → ∃ n, n < 3 ∧ v = nI n) ∧
  (315 ≤ a ∧ a < 331 ∧ k = 0 → v = -1 ∨ ∃ n, n < 128 ∧ v = nI n) ∧ (315 ≤ a ∧ a < 331 ∧ (k = 3 ∨ k = 12) → v = 0 ∨ v = 1) ∧
  (a = 310 ∧ k = 2 → ∃ n, n ≤ 8 ∧ v = nI n) ∧ (a = 311 ∧ k < 8 → ∃ n, n ≤ 112 ∧ v = nI n) ∧ (a = 335 ∧ k = 1 → ∃ n, n ≤ 100 ∧ v = nI n)
theorem OkC_of {a k : Nat} {v : Int32} (h : ¬ (a = 313 ∧ (k = 1 ∨ k = 2) ∨ a = 300 ∧ k = 13 ∨ 315 ≤ a ∧ a < 331 ∧ (k = 0 ∨ k = 3 ∨ k = 12) ∨ a = 310 ∧ k = 2 ∨ a = 311 ∨ a = 335 ∧ k = 1)) : OkC a k v :=
  ⟨fun q => absurd q (by omega), fun q => absurd q (by omega), fun q => absurd q (by omega), fun q => absurd q (by omega), fun q => absurd q (by omega), fun q => absurd q (by omega), fun q => absurd q (by omega), fun q => absurd q (by omega)⟩
def Hse (h : CH) : Prop := Lay h ∧ ∀ a k, OkC a k (hI h a k)
theorem Hse_sI {h : CH} {a k : Nat} {v : Int32} (hH : Hse h) (hv : OkC a k v) : Hse (sI h a k v) := ⟨hH.1, fun x y => by
  rw [hI_sI]
  split
  · next e => rw [e.1, e.2]; exact hv
  · exact hH.2 x y⟩
theorem Hse_sJ {h : CH} {a k : Nat} {v : Int64} (hH : Hse h) : Hse (sJ h a k v) := ⟨hH.1, fun x y => hH.2 x y⟩
theorem nIc {v : Int32} {n : Nat} (e : v = nI n) (h : n < 2 ^ 31) : v = nI v.toNatClampNeg := by rw [e, nI_clamp h]
theorem nIn {v : Int32} {n : Nat} (e : v = nI n) (h : n < 2 ^ 31) : v.toNatClampNeg = n := by rw [e, nI_clamp h]
theorem Hse_num {h : CH} (hH : Hse h) : NumL h := by
  obtain ⟨n, n1, n2, e⟩ := (hH.2 313 1).1 ⟨rfl, rfl⟩
  obtain ⟨m, m2, e2⟩ := (hH.2 313 2).2.1 ⟨rfl, rfl⟩
  obtain ⟨t, t2, e3⟩ := (hH.2 300 13).2.2.1 ⟨rfl, rfl⟩
  have a1 : nN h = n := nIn e (by omega)
  have a2 : hdN h = m := nIn e2 (by omega)
  have a3 : tN h = t := nIn e3 (by omega)
  unfold NumL
  rw [a1, a2, a3]
  exact ⟨e, n1, n2, e2, m2, e3, t2⟩
theorem Hse_sp {h : CH} (hH : Hse h) : SpL h := fun i hi => by
  rcases (hH.2 (313 + 2 + i) 0).2.2.2.1 ⟨by omega, by omega, rfl⟩ with e | ⟨n, hn, e⟩
  · exact Or.inl e
  · exact Or.inr ⟨nIc e (by omega), by unfold spN; rw [nIn e (by omega)]; exact hn⟩
theorem Hse_fil {h : CH} (hH : Hse h) : FilN h := by
  obtain ⟨n, n1, e⟩ := (hH.2 310 2).2.2.2.2.2.1 ⟨rfl, rfl⟩
  refine ⟨nIc e (by omega), by rw [nIn e (by omega)]; exact n1, fun f hf => ?_⟩
  rw [nIn e (by omega)] at hf
  obtain ⟨m, m1, e⟩ := (hH.2 311 f).2.2.2.2.2.2.1 ⟨rfl, by omega⟩
  exact ⟨nIc e (by omega), by rw [nIn e (by omega)]; exact m1⟩
theorem Hse_tr {h : CH} (hH : Hse h) : hI h 335 1 = nI (trN h) ∧ trN h ≤ 100 := by
  obtain ⟨n, n1, e⟩ := (hH.2 335 1).2.2.2.2.2.2.2 ⟨rfl, rfl⟩
  exact ⟨nIc e (by omega), by unfold trN; rw [nIn e (by omega)]; exact n1⟩
theorem Hse_dirty {h : CH} (hH : Hse h) {i : Nat} (hi : i < 16) : hI h (313 + 2 + i) 3 = 0 ∨ hI h (313 + 2 + i) 3 = 1 := (hH.2 _ _).2.2.2.2.1 ⟨by omega, by omega, Or.inl rfl⟩
theorem Hse_oldDirty {h : CH} (hH : Hse h) {i : Nat} (hi : i < 16) : hI h (313 + 2 + i) 12 = 0 ∨ hI h (313 + 2 + i) 12 = 1 := (hH.2 _ _).2.2.2.2.1 ⟨by omega, by omega, Or.inr rfl⟩
theorem OkC_frame {i k : Nat} {v : Int32} (hi : i < 16) (h0 : k = 0 → v = -1 ∨ ∃ n, n < 128 ∧ v = nI n) (h3 : k = 3 ∨ k = 12 → v = 0 ∨ v = 1) : OkC (313 + 2 + i) k v :=
  ⟨fun q => absurd q (by omega), fun q => absurd q (by omega), fun q => absurd q (by omega), fun q => h0 q.2.2, fun q => h3 q.2.2, fun q => absurd q (by omega), fun q => absurd q (by omega), fun q => absurd q (by omega)⟩
theorem Hse_drop {h : CH} {i : Nat} (hi : i < 16) (hH : Hse h) : Hse (cDrop h (313 + 2 + i)) :=
  Hse_sI (Hse_sI (Hse_sI (Hse_sI (Hse_sI hH (OkC_frame hi (fun _ => Or.inl rfl) (fun q => absurd q (by omega)))) (OkC_of (by omega))) (OkC_frame hi (fun q => absurd q (by omega)) (fun _ => Or.inl rfl))) (OkC_of (by omega))) (OkC_of (by omega))
theorem Hse_dropA {h : CH} (hH : Hse h) : ∀ n, n ≤ 16 → Hse (cDropA h 313 n)
  | 0, _ => hH
  | n + 1, hn => Hse_drop (by omega) (Hse_dropA hH n (by omega))
theorem Hse_lose {h : CH} (hH : Hse h) : Hse (cLose h) := Hse_sI (Hse_sI (Hse_dropA (Hse_sI hH (OkC_of (by omega))) 16 (by omega)) (OkC_of (by omega))) (OkC_of (by omega))
theorem Hse_tick {h : CH} (hH : Hse h) : Hse (cTick h) := by
  unfold cTick
  split
  · exact hH
  · exact Hse_sI hH (OkC_of (by omega))
theorem Hse_rdP {h : CH} {t sp : Nat} (hs : sp < 128) (hH : Hse h) : Hse (cRdP h t sp) := by
  unfold cRdP cReach
  split
  · exact Hse_sJ hH
  · exact Hse_sJ (Hse_sI hH (OkC_of (by omega)))
theorem Hse_wrP {h : CH} {t sp : Nat} {v : Int32} (hs : sp < 128) (hH : Hse h) : Hse (cWrP h t sp v) :=
  Hse_sI (Hse_sI (Hse_sI (Hse_rdP hs hH) (OkC_of (by omega))) (OkC_of (by omega))) (OkC_of (by omega))
theorem Hse_forget {h : CH} {sp : Nat} (hH : Hse h) : Hse (cForget h 331 sp) := by
  unfold cForget
  split
  · exact hH
  · exact Hse_sI (Hse_sI hH (OkC_of (by omega))) (OkC_of (by omega))
theorem Hse_keep {h : CH} {sp : Nat} {v : Int32} (hH : Hse h) : Hse (cKeep h 331 sp v) := by
  unfold cKeep
  split
  · exact Hse_sI (Hse_sI (Hse_sI hH (OkC_of (by omega))) (OkC_of (by omega))) (OkC_of (by omega))
  · exact Hse_sI hH (OkC_of (by omega))
theorem Hse_flu {h : CH} {t i sp : Nat} (hi : i < 16) (hs : sp < 128) (hH : Hse h) : Hse (cFlu h t (313 + 2 + i) sp) :=
  Hse_forget (Hse_sI (Hse_wrP hs hH) (OkC_frame hi (fun q => absurd q (by omega)) (fun _ => Or.inl rfl)))
theorem Hse_ev {h : CH} {t i sp : Nat} (hi : i < 16) (hs : ¬ hI h (313 + 2 + i) 3 = 0 → sp < 128) (hH : Hse h) : Hse (cEv h t i sp) := by
  unfold cEv
  split
  · exact Hse_drop hi hH
  · next q => exact Hse_drop hi (Hse_flu hi (hs q) (Hse_tick hH))
theorem Hse_use {h : CH} {i : Nat} (hi : i < 16) (hH : Hse h) : Hse (cUse h 313 i) :=
  Hse_sI (Hse_sI (Hse_sI hH (OkC_of (by omega))) (OkC_of (by omega))) (OkC_of (by omega))
theorem Hse_come {h : CH} {i sp : Nat} {v : Int32} (hi : i < 16) (hs : sp < 128) (hH : Hse h) : Hse (cCome h 313 i (nI sp) v) :=
  Hse_sI (Hse_use hi (Hse_sI (Hse_sI (Hse_drop hi hH) (OkC_frame hi (fun _ => Or.inr ⟨sp, hs, rfl⟩) (fun q => absurd q (by omega)))) (OkC_of (by omega)))) (OkC_of (by omega))
theorem Hse_bring {h : CH} {i sp : Nat} (hi : i < 16) (hs : sp < 128) (hH : Hse h) : Hse (cBring h i sp) := Hse_come hi hs (Hse_rdP hs hH)
theorem Hse_brA1 {h : CH} {i sp : Nat} (hi : i < 16) (hs : sp < 128) (hH : Hse h) : Hse (cBrA1 h i sp) :=
  Hse_sI (Hse_sI (Hse_bring hi hs hH) (OkC_of (by omega))) (OkC_of (by omega))
theorem Hse_ho {h g : CH} (H : HandOnly h g) (hH : Hse h) : Hse g := ⟨Lay_ho H hH.1, fun a k => by
  by_cases c : a = 313 ∧ k = 2
  · rw [c.1, c.2]
    rcases H.2.2.2.2 with e | ⟨j, hj, e⟩
    · rw [e]
      exact hH.2 _ _
    · rw [e]
      exact ⟨fun q => absurd q (by omega), fun _ => ⟨j, by omega, rfl⟩, fun q => absurd q (by omega), fun q => absurd q (by omega), fun q => absurd q (by omega), fun q => absurd q (by omega), fun q => absurd q (by omega), fun q => absurd q (by omega)⟩
  · by_cases d : k = 7 ∧ 313 ≤ a ∧ a < 331
    · exact OkC_of (by omega)
    · rw [H.2.2.2.1 a k c d]
      exact hH.2 _ _⟩
theorem Hse_choose {h : CH} {pol cl aside : Int32} (hH : Hse h) : Hse (cChoose h 313 (nN h) (hdN h) pol cl aside).1 := Hse_ho (ho_choose (Hse_num hH).2.1 (Hse_num hH).2.2.1) hH
theorem Hse_brA {h : CH} {sp : Nat} {aside : Int32} (hs : sp < 128) (hH : Hse h) : Hse (cBrA h sp aside).1 := by
  have hN := Hse_num hH
  unfold cBrA
  split
  · exact hH
  · split
    · next i q => exact Hse_brA1 (by have := (lst_some q).1; have := hN.2.2.1; omega) hs hH
    · split
      · exact Hse_choose hH
      · next i q => exact Hse_brA1 (by have := (cChoose_some hN.2.1 hN.2.2.1 q).1; have := hN.2.2.1; omega) hs (Hse_choose hH)
theorem Hse_RA {sp blk : Nat} {aside : Int32} (hs : sp + 16 ≤ 128 + blk) : ∀ (m i : Nat) (h : CH), Hse h → Hse (cRA sp blk aside m i h)
  | 0, _, h, hH => hH
  | m + 1, i, h, hH => by
    unfold cRA
    split
    · exact hH
    · next c =>
      have hb : sp + i < 128 := by
        by_cases q : 16 ≤ blk + i
        · exact absurd (Or.inr q) c
        · omega
      split
      · exact Hse_RA hs m (i + 1) h hH
      · split
        · exact Hse_RA hs m (i + 1) _ (Hse_brA hb hH)
        · exact Hse_brA hb hH
theorem Hse_takeF {h : CH} (hH : Hse h) : Hse (cTakeF h).1 ∧ ∀ i, (cTakeF h).2 = some i → i < nN h := by
  have hN := Hse_num hH
  unfold cTakeF
  split
  · next i q => exact ⟨hH, fun j e => by cases e; exact (lst_some q).1⟩
  · split
    · exact ⟨Hse_choose hH, fun j e => by cases e⟩
    · next i q =>
      have hi := (cChoose_some hN.2.1 hN.2.2.1 q)
      have h16 := hN.2.2.1
      have hg := Hse_choose (pol := hI h 300 10) (cl := 0) (aside := -1) hH
      have H := ho_choose (h := h) (n := nN h) (hd := hdN h) (pol := hI h 300 10) (cl := 0) (aside := -1) hN.2.1 hN.2.2.1
      dsimp only
      split
      · exact ⟨Hse_lose (Hse_tick hg), fun j e => by cases e⟩
      · refine ⟨Hse_ev (by omega) (fun _ => ?_) hg, fun j e => by cases e; exact hi.1⟩
        rcases Hse_sp hg i (by omega) with e | e
        · exact absurd ((CanGo_ho H).mpr hi.2).1 (by rw [e]; decide)
        · exact e.2
theorem OkC_len {n : Nat} (h : n ≤ 100) : OkC 335 1 (nI n) :=
  ⟨fun q => absurd q (by omega), fun q => absurd q (by omega), fun q => absurd q (by omega), fun q => absurd q (by omega), fun q => absurd q (by omega), fun q => absurd q (by omega), fun q => absurd q (by omega), fun _ => ⟨n, h, rfl⟩⟩
theorem Hse_cp {h : CH} {n m : Nat} (hH : Hse h) : Hse (cpI h 336 336 1 0 m) := ⟨hH.1, fun a k => by
  rw [hI_cpI]
  split
  · next e => rw [e]; exact OkC_of (by omega)
  · exact hH.2 a k⟩
theorem Hse_tadd {h : CH} {v : Int32} (hH : Hse h) : Hse (cTAdd h 335 (trN h) v) := by
  have ht := (Hse_tr hH).2
  unfold cTAdd
  split
  · exact Hse_sI (Hse_sI (Hse_sI (Hse_cp (n := 0) hH) (OkC_len (by omega))) (OkC_of (by omega))) (OkC_len (by omega))
  · exact Hse_sI (Hse_sI hH (OkC_of (by omega))) (OkC_len (by omega))
theorem Hse_count {h : CH} {f b : Nat} {o : Option Nat} (ho : ∀ i, o = some i → i < 16) (hH : Hse h) : Hse (cCount h f b o) := by
  have hg := Hse_tadd (v := nI (f * 16 + b)) hH
  unfold cCount
  cases o with
  | none => exact Hse_sI hg (OkC_of (by omega))
  | some i =>
    have hi := ho i rfl
    dsimp only
    split
    · exact Hse_sI hg (OkC_of (by omega))
    · exact Hse_sI (Hse_sI (Hse_sI hg (OkC_of (by omega))) (OkC_of (by omega))) (OkC_of (by omega))
theorem Hse_rem {h : CH} {i : Nat} {b : Int32} (hi : i < 16) (hH : Hse h) : Hse (cRem h i b) := by
  unfold cRem
  split
  · exact hH
  · exact Hse_sI (Hse_sI (Hse_sI (Hse_sI (Hse_sI hH (OkC_of (by omega))) (OkC_of (by omega))) (OkC_of (by omega))) (OkC_frame hi (fun q => absurd q (by omega)) (fun _ => Hse_dirty hH hi))) (OkC_of (by omega))
theorem Hse_set {h : CH} {i : Nat} {v : Int32} (hi : i < 16) (hH : Hse h) : Hse (cSet h i v) := by
  unfold cSet
  split
  · exact Hse_sI (Hse_sI (Hse_sI hH (OkC_of (by omega))) (OkC_frame hi (fun q => absurd q (by omega)) (fun _ => Or.inr rfl))) (OkC_of (by omega))
  · exact Hse_sI hH (OkC_of (by omega))
theorem Hse_change {h : CH} {i : Nat} {v b : Int32} (hi : i < 16) (hH : Hse h) : Hse (cChange h i v b) := Hse_set hi (Hse_rem hi hH)
