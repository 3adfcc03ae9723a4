/-! THE TRACE'S POOL while it is asked: n frames, f of them filled, the hand at hd, i accesses done -/
def spT (g : CH) (j : Nat) : Nat := (hI g (340 + 2 + j) 0).toNatClampNeg
def CP (n f hd i : Nat) (g : CH) : Prop := f ≤ n ∧ hd < n ∧ hI g 340 1 = nI n ∧ hI g 340 2 = nI hd ∧ hI g 340 3 = nI i ∧ (∀ j, j < n → hI g (340 + 2 + j) 2 = 0 ∧ hI g (340 + 2 + j) 9 = 0) ∧ (∀ j, f ≤ j → j < n → hI g (340 + 2 + j) 0 = -1) ∧ (∀ j, j < f → hI g (340 + 2 + j) 0 = nI (spT g j) ∧ spT g j < 128) ∧ ∀ j j', j < f → j' < f → spT g j = spT g j' → j = j'
theorem use_cell {g : CH} {i j x k : Nat} : hI (cNx (cUse g 340 j) 335 i j) x k = if x = 339 ∧ k = j then hI g 337 i else if x = 340 + 2 + j ∧ k = 7 then 1 else if x = 340 + 2 + j ∧ k = 5 then hI g 340 3 + 1 else if x = 340 ∧ k = 3 then hI g 340 3 + 1 else hI g x k := by
  have e : hI (cUse g 340 j) 337 i = hI g 337 i := by
    unfold cUse
    rw [hI_ne (by omega), hI_ne (by omega), hI_ne (by omega)]
  unfold cNx
  show hI (sI (cUse g 340 j) 339 j (hI (cUse g 340 j) 337 i)) x k = _
  rw [e, hI_sI]
  unfold cUse
  rw [hI_sI, hI_sI, hI_sI]
theorem come_rowT {a : CH} {i k : Nat} {sp v : Int32} (hi : i < 16) : hI (cCome a 340 i sp v) (340 + 2 + i) k = if k = 0 then sp else if k = 1 then v else if k = 5 ∨ k = 6 then hI a 340 3 + 1 else if k = 7 then 1 else if k = 2 ∨ k = 3 ∨ k = 8 ∨ k = 9 then 0 else hI a (340 + 2 + i) k := by
  have e3 : hI (sI (sI (cDrop a (340 + 2 + i)) (340 + 2 + i) 0 sp) (340 + 2 + i) 1 v) 340 3 = hI a 340 3 := by
    rw [hI_ne (by omega), hI_ne (by omega), hI_drop (by omega)]
  unfold cCome cUse
  dsimp only
  rw [e3, hI_sI]
  by_cases k6 : k = 6
  · subst k6
    rw [if_pos ⟨rfl, rfl⟩, if_neg (by omega), if_neg (by omega), if_pos (Or.inr rfl)]
  rw [if_neg (fun z => k6 z.2), hI_sI]
  by_cases k7 : k = 7
  · subst k7
    rw [if_pos ⟨rfl, rfl⟩, if_neg (by omega), if_neg (by omega), if_neg (by omega), if_pos rfl]
  rw [if_neg (fun z => k7 z.2), hI_sI]
  by_cases k5 : k = 5
  · subst k5
    rw [if_pos ⟨rfl, rfl⟩, if_neg (by omega), if_neg (by omega), if_pos (Or.inl rfl)]
  rw [if_neg (fun z => k5 z.2), hI_ne (by omega), hI_sI]
  by_cases k1 : k = 1
  · subst k1
    rw [if_pos ⟨rfl, rfl⟩, if_neg (by omega), if_pos rfl]
  rw [if_neg (fun z => k1 z.2), hI_sI]
  by_cases k0 : k = 0
  · subst k0
    rw [if_pos ⟨rfl, rfl⟩, if_pos rfl]
  rw [if_neg (fun z => k0 z.2), if_neg k0, if_neg k1, if_neg (by omega), if_neg k7]
  unfold cDrop
  rw [hI_sI]
  by_cases k9 : k = 9
  · subst k9
    rw [if_pos ⟨rfl, rfl⟩, if_pos (by omega)]
  rw [if_neg (fun z => k9 z.2), hI_sI]
  by_cases k8 : k = 8
  · subst k8
    rw [if_pos ⟨rfl, rfl⟩, if_pos (by omega)]
  rw [if_neg (fun z => k8 z.2), hI_sI]
  by_cases k3 : k = 3
  · subst k3
    rw [if_pos ⟨rfl, rfl⟩, if_pos (by omega)]
  rw [if_neg (fun z => k3 z.2), hI_sI]
  by_cases k2 : k = 2
  · subst k2
    rw [if_pos ⟨rfl, rfl⟩, if_pos (by omega)]
  rw [if_neg (fun z => k2 z.2), hI_nk k0, if_neg (by omega)]
theorem come_cell {g : CH} {i j x k : Nat} {sp v : Int32} (hj : j < 16) : hI (cNx (cCome g 340 j sp v) 335 i j) x k = if x = 339 ∧ k = j then hI g 337 i else if x = 340 ∧ k = 3 then hI g 340 3 + 1 else if x = 340 + 2 + j then (if k = 0 then sp else if k = 1 then v else if k = 5 ∨ k = 6 then hI g 340 3 + 1 else if k = 7 then 1 else if k = 2 ∨ k = 3 ∨ k = 8 ∨ k = 9 then 0 else hI g (340 + 2 + j) k) else hI g x k := by
  have e : hI (cCome g 340 j sp v) 337 i = hI g 337 i := hI_come (by omega) (by omega)
  unfold cNx
  show hI (sI (cCome g 340 j sp v) 339 j (hI (cCome g 340 j sp v) 337 i)) x k = _
  rw [e, hI_sI]
  split
  · rfl
  · by_cases c : x = 340 ∧ k = 3
    · rw [if_pos c, c.1, c.2]
      have e3 : hI (sI (sI (cDrop g (340 + 2 + j)) (340 + 2 + j) 0 sp) (340 + 2 + j) 1 v) 340 3 = hI g 340 3 := by
        rw [hI_ne (by omega), hI_ne (by omega), hI_drop (by omega)]
      unfold cCome cUse
      dsimp only
      rw [e3, hI_ne (by omega), hI_ne (by omega), hI_ne (by omega), hI_eq]
    · rw [if_neg c]
      by_cases d : x = 340 + 2 + j
      · rw [if_pos d, d]
        exact come_rowT hj
      · rw [if_neg d]
        exact hI_come d c
theorem cp_sp {n f hd i : Nat} {g : CH} (C : CP n f hd i g) {j : Nat} (hj : j < n) {p : Nat} (hp : p < 128) (e : hI g (340 + 2 + j) 0 = nI p) : j < f ∧ spT g j = p := by
  obtain ⟨c1, c2, c3, c4, c5, c6, c7, c8, c9⟩ := C
  have hf : j < f := by
    rcases Nat.lt_or_ge j f with z | z
    · exact z
    · rw [c7 j z hj] at e
      exact absurd e.symm (nI_n1 hp)
  exact ⟨hf, by unfold spT; rw [e, nI_clamp (by omega)]⟩
/-- a page that is there -/
theorem cp_use {n f hd i j : Nat} {g : CH} (C : CP n f hd i g) (h16 : n ≤ 16) (hj : j < f) : CP n f hd (i + 1) (cNx (cUse g 340 j) 335 i j) ∧ ∀ x, spT (cNx (cUse g 340 j) 335 i j) x = spT g x := by
  obtain ⟨c1, c2, c3, c4, c5, c6, c7, c8, c9⟩ := C
  have e0 : ∀ x k, ¬ k = 5 → ¬ k = 7 → hI (cNx (cUse g 340 j) 335 i j) (340 + 2 + x) k = hI g (340 + 2 + x) k := fun x k h5 h7 => by
    rw [use_cell, if_neg (by omega), if_neg (fun z => h7 z.2), if_neg (fun z => h5 z.2), if_neg (by omega)]
  have es : ∀ x, spT (cNx (cUse g 340 j) 335 i j) x = spT g x := fun x => by
    unfold spT
    rw [e0 x 0 (by omega) (by omega)]
  have e1 : ∀ k, ¬ k = 3 → hI (cNx (cUse g 340 j) 335 i j) 340 k = hI g 340 k := fun k h3 => by
    rw [use_cell, if_neg (by omega), if_neg (by omega), if_neg (by omega), if_neg (by omega)]
  refine ⟨⟨c1, c2, (e1 1 (by omega)).trans c3, (e1 2 (by omega)).trans c4, ?_, fun x hx => ?_, fun x h1 h2 => ?_, fun x hx => ?_, fun x y hx hy => ?_⟩, es⟩
  · rw [use_cell, if_neg (by omega), if_neg (by omega), if_neg (by omega), if_pos ⟨rfl, rfl⟩, c5, nI_1]
  · rw [e0 x 2 (by omega) (by omega), e0 x 9 (by omega) (by omega)]
    exact c6 x hx
  · rw [e0 x 0 (by omega) (by omega)]
    exact c7 x h1 h2
  · rw [es, e0 x 0 (by omega) (by omega)]
    exact c8 x hx
  · rw [es, es]
    exact c9 x y hx hy
/-- a page that comes: into the lowest free frame, or in another's place -/
theorem cp_come {n f hd i j p : Nat} {g : CH} (C : CP n f hd i g) (h16 : n ≤ 16) (hp : p < 128) (hno : ∀ x, x < f → ¬ spT g x = p) (hj : (j = f ∧ f < n) ∨ j < f) : CP n (if j = f then f + 1 else f) hd (i + 1) (cNx (cCome g 340 j (nI p) 0) 335 i j) ∧ spT (cNx (cCome g 340 j (nI p) 0) 335 i j) = upF (spT g) j p := by
  obtain ⟨c1, c2, c3, c4, c5, c6, c7, c8, c9⟩ := C
  have hj16 : j < 16 := by omega
  have e0 : ∀ x k, ¬ x = j → hI (cNx (cCome g 340 j (nI p) 0) 335 i j) (340 + 2 + x) k = hI g (340 + 2 + x) k := fun x k h => by
    rw [come_cell hj16, if_neg (by omega), if_neg (by omega), if_neg (by omega)]
  have ej : ∀ k, hI (cNx (cCome g 340 j (nI p) 0) 335 i j) (340 + 2 + j) k = (if k = 0 then nI p else if k = 1 then 0 else if k = 5 ∨ k = 6 then hI g 340 3 + 1 else if k = 7 then 1 else if k = 2 ∨ k = 3 ∨ k = 8 ∨ k = 9 then 0 else hI g (340 + 2 + j) k) := fun k => by
    rw [come_cell hj16, if_neg (by omega), if_neg (by omega), if_pos rfl]
  have es : spT (cNx (cCome g 340 j (nI p) 0) 335 i j) = upF (spT g) j p := by
    funext x
    unfold spT upF
    by_cases c : x = j
    · rw [if_pos c, c, ej, if_pos rfl, nI_clamp (by omega)]
    · rw [if_neg c, e0 x 0 c]
  have e1 : ∀ k, ¬ k = 3 → hI (cNx (cCome g 340 j (nI p) 0) 335 i j) 340 k = hI g 340 k := fun k h3 => by
    rw [come_cell hj16, if_neg (by omega), if_neg (by omega), if_neg (by omega)]
  have up1 : upF (spT g) j p j = p := if_pos rfl
  have up0 : ∀ x, ¬ x = j → upF (spT g) j p x = spT g x := fun x h => if_neg h
  refine ⟨⟨by split <;> omega, c2, (e1 1 (by omega)).trans c3, (e1 2 (by omega)).trans c4, ?_, fun x hx => ?_, fun x h1 h2 => ?_, fun x hx => ?_, fun x y hx hy => ?_⟩, es⟩
  · rw [come_cell hj16, if_neg (by omega), if_pos ⟨rfl, rfl⟩, c5, nI_1]
  · by_cases c : x = j
    · rw [c, ej, ej]
      exact ⟨rfl, rfl⟩
    · rw [e0 x 2 c, e0 x 9 c]
      exact c6 x hx
  · by_cases c : x = j
    · split at h1 <;> omega
    · rw [e0 x 0 c]
      exact c7 x (by split at h1 <;> omega) h2
  · rw [es]
    by_cases c : x = j
    · rw [c, ej, if_pos rfl, up1]
      exact ⟨rfl, hp⟩
    · rw [e0 x 0 c, up0 x c]
      exact c8 x (by split at hx <;> omega)
  · rw [es]
    by_cases c : x = j
    · by_cases d : y = j
      · intro _
        rw [c, d]
      · rw [c, up1, up0 y d]
        intro z
        exact absurd z.symm (hno y (by split at hy <;> omega))
    · by_cases d : y = j
      · rw [d, up1, up0 x c]
        intro z
        exact absurd z (hno x (by split at hx <;> omega))
      · rw [up0 x c, up0 y d]
        exact c9 x y (by split at hx <;> omega) (by split at hy <;> omega)
/-- the hand goes until it finds a page without a mark -/
def mkP (g : CH) (j : Nat) : Bool := decide (¬ hI g (340 + 2 + j) 7 = 0)
theorem cp_hao {n f hd hd' i : Nat} {g g' : CH} (C : CP n f hd i g) (h16 : n ≤ 16) (H : HandO 340 g g') (h1 : hd' < n) (h2 : hI g' 340 2 = nI hd') : CP n f hd' i g' ∧ ∀ x, spT g' x = spT g x := by
  obtain ⟨c1, c2, c3, c4, c5, c6, c7, c8, c9⟩ := C
  have e0 : ∀ x k, ¬ k = 7 → hI g' (340 + 2 + x) k = hI g (340 + 2 + x) k := fun x k h => H.2.2.2.1 _ _ (by omega) (by omega)
  have es : ∀ x, spT g' x = spT g x := fun x => by
    unfold spT
    rw [e0 x 0 (by omega)]
  refine ⟨⟨c1, h1, (H.2.2.2.1 _ _ (by omega) (by omega)).trans c3, h2, (H.2.2.2.1 _ _ (by omega) (by omega)).trans c5, fun x hx => ?_, fun x a b => ?_, fun x hx => ?_, fun x y hx hy => ?_⟩, es⟩
  · rw [e0 x 2 (by omega), e0 x 9 (by omega)]
    exact c6 x hx
  · rw [e0 x 0 (by omega)]
    exact c7 x a b
  · rw [es, e0 x 0 (by omega)]
    exact c8 x hx
  · rw [es, es]
    exact c9 x y hx hy
theorem cp_go {n hd i j : Nat} {g : CH} (C : CP n n hd i g) (h16 : n ≤ 16) (hj : j < n) : CanGo g 340 j 0 (-1) := by
  obtain ⟨c1, c2, c3, c4, c5, c6, c7, c8, c9⟩ := C
  exact ⟨by rw [(c8 j hj).1]; exact nI_pos' (by have := (c8 j hj).2; omega), (c6 j hj).1, (c6 j hj).2, nI_n1 (by omega), Or.inl rfl⟩
theorem swp_step {n hd i : Nat} {g : CH} (C : CP n n hd i g) (h16 : n ≤ 16) : CP n n (swNx n hd) i (sI g 340 2 (nI (swNx n hd))) ∧ CP n n (swNx n hd) i (sI (sI g 340 2 (nI (swNx n hd))) (340 + 2 + hd) 7 0) := by
  have h0 : 0 < n := by have := C.2.1; omega
  have b1 : HandO 340 g (sI g 340 2 (nI (swNx n hd))) := ⟨rfl, rfl, rfl, fun a k c _ => by rw [hI_sI, if_neg c], Or.inr ⟨_, Nat.lt_of_lt_of_le (swNx_lt h0) h16, by rw [hI_sI, if_pos ⟨rfl, rfl⟩]⟩⟩
  have c1 := (cp_hao C h16 b1 (swNx_lt h0) (hI_eq _ _ _ _)).1
  have hd16 : hd < 16 := by have := C.2.1; omega
  have b2 : HandO 340 (sI g 340 2 (nI (swNx n hd))) (sI (sI g 340 2 (nI (swNx n hd))) (340 + 2 + hd) 7 0) := ⟨rfl, rfl, rfl, fun a k _ d => by rw [hI_sI, if_neg (fun q => d ⟨q.2, by omega, by omega⟩)], Or.inl (by rw [hI_sI, if_neg (by omega)])⟩
  exact ⟨c1, (cp_hao c1 h16 b2 (swNx_lt h0) (by rw [hI_ne (by omega)]; exact hI_eq _ _ _ _)).1⟩
theorem swp {n i : Nat} (h16 : n ≤ 16) : ∀ (m hd : Nat) (g : CH), CP n n hd i g → cnt (mkP g) n < m → ∃ v hd', (cSweep 340 n 0 (-1) m hd g).2 = some v ∧ v < n ∧ hd' < n ∧ hI (cSweep 340 n 0 (-1) m hd g).1 340 2 = nI hd'
  | 0, hd, g, C, h => absurd h (Nat.not_lt_zero _)
  | m + 1, hd, g, C, h => by
    have h0 := C.2.1
    have e1 : swAt n hd = hd := if_pos h0
    obtain ⟨s1, s2⟩ := swp_step C h16
    unfold cSweep
    rw [e1, if_pos (cp_go s1 h16 h0)]
    split
    · exact ⟨hd, swNx n hd, rfl, h0, swNx_lt (by omega), hI_eq _ _ _ _⟩
    · next d =>
      refine swp h16 m _ _ s2 ?_
      have z := cnt_less (p := mkP g) (q := mkP (sI (sI g 340 2 (nI (swNx n hd))) (340 + 2 + hd) 7 0)) h0 (by
        unfold mkP
        rw [hI_ne (by omega)] at d
        exact decide_eq_true d) (by
        unfold mkP
        rw [hI_eq]
        exact decide_eq_false (fun w => w rfl)) (fun x hx ne => by
        unfold mkP
        rw [hI_ne (by omega), hI_ne (by omega)])
      omega
theorem swp_all {n hd i : Nat} {g : CH} (C : CP n n hd i g) (h16 : n ≤ 16) : ∃ v hd', (cSweep 340 n 0 (-1) (2 * n + 1) hd g).2 = some v ∧ v < n ∧ hd' < n ∧ hI (cSweep 340 n 0 (-1) (2 * n + 1) hd g).1 340 2 = nI hd' :=
  swp h16 _ hd g C (by have := cnt_max (q := mkP g) n; omega)
/-- the page used, or come, longest ago -/
def oF (h : CH) (pol : Int32) : Nat → Nat
  | 0 => 0
  | n + 1 => if cKey h 340 pol n < cKey h 340 pol (oF h pol n) then n else oF h pol n
theorem oF_lt {h : CH} {pol : Int32} : ∀ n, oF h pol (n + 1) < n + 1
  | 0 => by
    show (if cKey h 340 pol 0 < cKey h 340 pol 0 then 0 else 0) < 1
    split <;> decide
  | n + 1 => by
    have := oF_lt (h := h) (pol := pol) n
    show (if cKey h 340 pol (n + 1) < cKey h 340 pol (oF h pol (n + 1)) then n + 1 else oF h pol (n + 1)) < n + 1 + 1
    split <;> omega
theorem cOld_oF {h : CH} {pol cl aside : Int32} {N : Nat} (hc : ∀ j, j < N → CanGo h 340 j cl aside) : ∀ n, n + 1 ≤ N → cOld h 340 pol cl aside (n + 1) = some (oF h pol (n + 1))
  | 0, h1 => by
    show (match (none : Option Nat) with | none => if CanGo h 340 0 cl aside then some 0 else none | some b => if CanGo h 340 0 cl aside ∧ cKey h 340 pol 0 < cKey h 340 pol b then some 0 else some b) = some (if _ then 0 else 0)
    dsimp only
    rw [if_pos (hc 0 (by omega))]
    split <;> rfl
  | n + 1, h1 => by
    have ih := cOld_oF (pol := pol) hc n (by omega)
    show (match cOld h 340 pol cl aside (n + 1) with | none => if CanGo h 340 (n + 1) cl aside then some (n + 1) else none | some b => if CanGo h 340 (n + 1) cl aside ∧ cKey h 340 pol (n + 1) < cKey h 340 pol b then some (n + 1) else some b) = some (if _ then n + 1 else oF h pol (n + 1))
    rw [ih]
    dsimp only
    by_cases c : cKey h 340 pol (n + 1) < cKey h 340 pol (oF h pol (n + 1))
    · rw [if_pos ⟨hc _ (by omega), c⟩, if_pos c]
    · rw [if_neg (fun z => c z.2), if_neg c]
/-- which frame a page that is not there takes -/
theorem room_free {n f hd i : Nat} {g : CH} {pol : Int32} (C : CP n f hd i g) (hf : f < n) : cRoom g 335 n (hdP g 340) pol = (g, some f) := by
  obtain ⟨c1, c2, c3, c4, c5, c6, c7, c8, c9⟩ := C
  have e : lst (frP g 340) n = some f := lst_of (by unfold frP; exact decide_eq_true (c7 f (Nat.le_refl _) hf)) (fun j hj => by
    unfold frP
    refine decide_eq_false ?_
    rw [(c8 j hj).1]
    exact nI_n1 (c8 j hj).2) hf
  unfold cRoom
  show (match lst (frP g 340) n with | some i => (g, some i) | none => _) = _
  rw [e]
theorem cp_full {n hd i : Nat} {g : CH} (C : CP n n hd i g) : lst (frP g 340) n = none := by
  obtain ⟨c1, c2, c3, c4, c5, c6, c7, c8, c9⟩ := C
  exact lst_no (fun j hj => by
    unfold frP
    refine decide_eq_false ?_
    rw [(c8 j hj).1]
    exact nI_n1 (c8 j hj).2)
theorem cp_hdP {n f hd i : Nat} {g : CH} (C : CP n f hd i g) (h16 : n ≤ 16) : hdP g 340 = hd := by
  obtain ⟨c1, c2, c3, c4, c5, c6, c7, c8, c9⟩ := C
  unfold hdP
  rw [c4, nI_clamp (by omega)]
theorem room_full {n hd i : Nat} {g : CH} {pol : Int32} (C : CP n n hd i g) (h16 : n ≤ 16) : cRoom g 335 n (hdP g 340) pol = if pol = 98 then (g, some (cFar g 335 n)) else if pol = 99 then cSweep 340 n 0 (-1) (2 * n + 1) hd g else (g, some (oF g pol n)) := by
  have h0 := C.2.1
  rw [cp_hdP C h16]
  unfold cRoom
  show (match lst (frP g 340) n with | some i => (g, some i) | none => if pol = 98 then (g, some (cFar g 335 n)) else cChoose g 340 n hd pol 0 (-1)) = _
  rw [cp_full C]
  dsimp only
  split
  · rfl
  · unfold cChoose
    rw [if_pos ⟨0, by omega, cp_go C h16 (by omega)⟩]
    split
    · rfl
    · obtain ⟨m, rfl⟩ : ∃ m, n = m + 1 := ⟨n - 1, by omega⟩
      rw [cOld_oF (fun j hj => cp_go C h16 hj) m (Nat.le_refl _)]
theorem room_some {n hd i : Nat} {g : CH} {pol : Int32} (C : CP n n hd i g) (h16 : n ≤ 16) : ∃ g' v hd', cRoom g 335 n (hdP g 340) pol = (g', some v) ∧ v < n ∧ HandO 340 g g' ∧ CP n n hd' i g' ∧ ∀ x, spT g' x = spT g x := by
  have h0 := C.2.1
  have O := hao_room (h := g) (ta := 335) (n := n) (hd := hdP g 340) (pol := pol) (by omega) h16
  have hlt := fun i => cRoom_lt (h := g) (ta := 335) (n := n) (hd := hdP g 340) (i := i) (pol := pol) (by omega)
  have key : ∃ v hd', (cRoom g 335 n (hdP g 340) pol).2 = some v ∧ hd' < n ∧ hI (cRoom g 335 n (hdP g 340) pol).1 340 2 = nI hd' := by
    rw [room_full C h16]
    split
    · exact ⟨_, hd, rfl, h0, C.2.2.2.1⟩
    · split
      · obtain ⟨v, hd', z1, z2, z3, z4⟩ := swp_all C h16
        exact ⟨v, hd', z1, z3, z4⟩
      · exact ⟨_, hd, rfl, h0, C.2.2.2.1⟩
  obtain ⟨v, hd', k1, k2, k3⟩ := key
  have hv := hlt v k1
  generalize cRoom g 335 n (hdP g 340) pol = q at O k1 k3 ⊢
  obtain ⟨g', o⟩ := q
  have k1' : o = some v := k1
  subst k1'
  have cc := cp_hao C h16 O k2 k3
  exact ⟨g', v, hd', rfl, hv, O, cc.1, cc.2⟩
