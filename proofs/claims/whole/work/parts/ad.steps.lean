/-! ONE ACCESS OF THE TRACE, in the class -/
theorem ms_hit {n f hd i m w p j : Nat} {pol : Int32} {g : CH} (C : CP n f hd i g) (hs : hI g 336 i = nI p) (hp : p < 128) (hj : j < f) (e : spT g j = p) : cMs 335 n pol (m + 1) i w g = cMs 335 n pol m (i + 1) w (cNx (cUse g 340 j) 335 i j) := by
  obtain ⟨c1, c2, c3, c4, c5, c6, c7, c8, c9⟩ := id C
  have l : lst (atP g 340 (hI g 336 i)) n = some j := lst_of (by
    unfold atP
    refine decide_eq_true ?_
    rw [hs, (c8 j hj).1, e]) (fun x hx => by
    unfold atP
    refine decide_eq_false ?_
    rw [hs, (c8 x (by omega)).1]
    intro z
    have z2 := (nI_eq (by have := (c8 x (by omega)).2; omega) (by omega)).mp z
    have := c9 x j (by omega) hj (z2.trans e.symm)
    omega) (by omega)
  show (match lst (atP g 340 (hI g 336 i)) n with | some j => cMs 335 n pol m (i + 1) w (cNx (cUse g 340 j) 335 i j) | none => _) = _
  rw [l]
theorem ms_lst {n f hd i p : Nat} {g : CH} (C : CP n f hd i g) (hs : hI g 336 i = nI p) (hp : p < 128) (hno : ∀ j, j < f → ¬ spT g j = p) : lst (atP g 340 (hI g 336 i)) n = none := lst_no (fun x hx => by
  unfold atP
  refine decide_eq_false ?_
  rw [hs]
  intro z
  obtain ⟨z1, z2⟩ := cp_sp C hx hp z
  exact hno x z1 z2)
theorem ms_miss {n f hd i m w p v : Nat} {pol : Int32} {g g' : CH} (C : CP n f hd i g) (hs : hI g 336 i = nI p) (hp : p < 128) (hno : ∀ j, j < f → ¬ spT g j = p) (e : cRoom g 335 n (hdP g 340) pol = (g', some v)) (e6 : hI g' 336 i = hI g 336 i) : cMs 335 n pol (m + 1) i w g = cMs 335 n pol m (i + 1) (w + 1) (cNx (cCome g' 340 v (nI p) 0) 335 i v) := by
  show (match lst (atP g 340 (hI g 336 i)) n with
    | some j => cMs 335 n pol m (i + 1) w (cNx (cUse g 340 j) 335 i j)
    | none => match (cRoom g 335 n (hdP g 340) pol).2 with
      | none => ((cRoom g 335 n (hdP g 340) pol).1, nI (w + 1))
      | some j => cMs 335 n pol m (i + 1) (w + 1) (cNx (cCome (cRoom g 335 n (hdP g 340) pol).1 340 j (hI (cRoom g 335 n (hdP g 340) pol).1 336 i) 0) 335 i j)) = _
  rw [ms_lst C hs hp hno, e]
  dsimp only
  rw [e6, hs]
def NX (s : Nat → Nat) (L i f : Nat) (g : CH) : Prop := ∀ j, j < f → hI g 339 j = nI (nxF s (spT g j) 100 (L - i) i)
theorem nx_use {s : Nat → Nat} {L n f hd i j p : Nat} {g : CH} (C : CP n f hd i g) (h16 : n ≤ 16) (hL : i < L) (N : NX s L i f g) (hs : s i = p) (h7 : hI g 337 i = nI (nxF s p 100 (L - (i + 1)) (i + 1))) (hj : j < f) (e : spT g j = p) : NX s L (i + 1) f (cNx (cUse g 340 j) 335 i j) := fun x hx => by
  have es := (cp_use C h16 hj).2 x
  rw [es, use_cell]
  by_cases c : x = j
  · rw [if_pos ⟨rfl, c⟩, c, e, h7]
  · obtain ⟨q, hq⟩ : ∃ q, L - i = q + 1 := ⟨L - i - 1, by omega⟩
    have z := N x hx
    rw [hq, nxF_no (fun w => c (C.2.2.2.2.2.2.2.2 x j hx hj (by rw [e, ← w, hs])))] at z
    rw [if_neg (fun w => c w.2), if_neg (by omega), if_neg (by omega), if_neg (by omega), z, show L - (i + 1) = q by omega]
theorem nx_come {s : Nat → Nat} {L n f hd i j p : Nat} {g : CH} (C : CP n f hd i g) (h16 : n ≤ 16) (hL : i < L) (hp : p < 128) (N : NX s L i f g) (hs : s i = p) (h7 : hI g 337 i = nI (nxF s p 100 (L - (i + 1)) (i + 1))) (hno : ∀ x, x < f → ¬ spT g x = p) (hj : (j = f ∧ f < n) ∨ j < f) : NX s L (i + 1) (if j = f then f + 1 else f) (cNx (cCome g 340 j (nI p) 0) 335 i j) := fun x hx => by
  have es := (cp_come C h16 hp hno hj).2
  have hj16 : j < 16 := by have := C.1; omega
  rw [es, come_cell hj16]
  by_cases c : x = j
  · rw [if_pos ⟨rfl, c⟩, c, show upF (spT g) j p j = p from if_pos rfl, h7]
  · obtain ⟨q, hq⟩ : ∃ q, L - i = q + 1 := ⟨L - i - 1, by omega⟩
    have hx' : x < f := by split at hx <;> omega
    have z := N x hx'
    rw [hq, nxF_no (fun w => hno x hx' (by rw [← w, hs]))] at z
    rw [if_neg (fun w => c w.2), if_neg (by omega), if_neg (by omega), z, show L - (i + 1) = q by omega, show upF (spT g) j p x = spT g x from if_neg c]
theorem far_max {g : CH} : ∀ n j, j < n → ¬ hI g 339 (cFar g 335 n) < hI g 339 j
  | 0, j, hj => absurd hj (Nat.not_lt_zero _)
  | n + 1, j, hj => by
    have ih := far_max (g := g) n
    show ¬ hI g 339 (if Farer g 335 n (cFar g 335 n) then n else cFar g 335 n) < hI g 339 j
    by_cases c : Farer g 335 n (cFar g 335 n)
    · rw [if_pos c]
      by_cases e : j = n
      · rw [e]
        exact Int32.lt_irrefl
      · have z := ih j (by omega)
        intro w
        refine z ?_
        rcases c with c | c
        · exact Int32.lt_trans c w
        · have c1 : hI g 339 n = hI g 339 (cFar g 335 n) := c.1
          rw [← c1]
          exact w
    · rw [if_neg c]
      by_cases e : j = n
      · rw [e]
        exact fun w => c (Or.inl w)
      · exact ih j (by omega)
/-- what the trace's pool keeps over all questions -/
def TQ (g : CH) : Prop := ∀ j, j < 16 → (hI g (340 + 2 + j) 0 = -1 ∨ ∃ p, p < 128 ∧ hI g (340 + 2 + j) 0 = nI p) ∧ hI g (340 + 2 + j) 2 = 0 ∧ hI g (340 + 2 + j) 9 = 0
theorem tq_use {g : CH} {i j : Nat} (T : TQ g) : TQ (cNx (cUse g 340 j) 335 i j) := fun x hx => by
  have e0 : ∀ k, ¬ k = 5 → ¬ k = 7 → hI (cNx (cUse g 340 j) 335 i j) (340 + 2 + x) k = hI g (340 + 2 + x) k := fun k h5 h7 => by
    rw [use_cell, if_neg (by omega), if_neg (fun z => h7 z.2), if_neg (fun z => h5 z.2), if_neg (by omega)]
  rw [e0 0 (by omega) (by omega), e0 2 (by omega) (by omega), e0 9 (by omega) (by omega)]
  exact T x hx
theorem tq_come {g : CH} {i j p : Nat} (hj : j < 16) (hp : p < 128) (T : TQ g) : TQ (cNx (cCome g 340 j (nI p) 0) 335 i j) := fun x hx => by
  have e0 : ∀ k, hI (cNx (cCome g 340 j (nI p) 0) 335 i j) (340 + 2 + x) k = if x = j then (if k = 0 then nI p else if k = 1 then 0 else if k = 5 ∨ k = 6 then hI g 340 3 + 1 else if k = 7 then 1 else if k = 2 ∨ k = 3 ∨ k = 8 ∨ k = 9 then 0 else hI g (340 + 2 + j) k) else hI g (340 + 2 + x) k := fun k => by
    rw [come_cell hj, if_neg (by omega), if_neg (by omega)]
    by_cases c : x = j
    · rw [if_pos (by omega), if_pos c]
    · rw [if_neg (by omega), if_neg c]
  rw [e0, e0, e0]
  by_cases c : x = j
  · rw [if_pos c, if_pos c, if_pos c]
    exact ⟨Or.inr ⟨p, hp, rfl⟩, rfl, rfl⟩
  · rw [if_neg c, if_neg c, if_neg c]
    exact T x hx
theorem tq_hao {g g' : CH} (H : HandO 340 g g') (T : TQ g) : TQ g' := fun x hx => by
  have e0 : ∀ k, ¬ k = 7 → hI g' (340 + 2 + x) k = hI g (340 + 2 + x) k := fun k h => H.2.2.2.1 _ _ (by omega) (by omega)
  rw [e0 0 (by omega), e0 2 (by omega), e0 9 (by omega)]
  exact T x hx
/-- what one access does: the pages, the misses, the nexts -/
theorem ms_step {s : Nat → Nat} {L n f hd i m w p : Nat} {pol : Int32} {g : CH} (C : CP n f hd i g) (h16 : n ≤ 16) (hL : i < L) (hs : hI g 336 i = nI p) (hsi : s i = p) (hp : p < 128) (h7 : pol = 98 → hI g 337 i = nI (nxF s p 100 (L - (i + 1)) (i + 1))) (N : pol = 98 → NX s L i f g) : ∃ f' hd' d g', cMs 335 n pol (m + 1) i w g = cMs 335 n pol m (i + 1) (w + d) g' ∧ CP n f' hd' (i + 1) g' ∧ (pol = 98 → NX s L (i + 1) f' g') ∧ (∀ k, hI g' 336 k = hI g 336 k ∧ hI g' 337 k = hI g 337 k) ∧ PgS n p f (spT g) f' (spT g') d (fun v => pol = 98 → v = cFar g 335 n) ∧ (TQ g → TQ g') := by
  have c1 := C.1
  by_cases c : ∃ j, j < f ∧ spT g j = p
  · obtain ⟨j, hj, e⟩ := c
    have u := cp_use C h16 hj
    refine ⟨f, hd, 0, _, ms_hit C hs hp hj e, u.1, fun q => nx_use C h16 hL (N q) hsi (h7 q) hj e, fun k => ⟨?_, ?_⟩, Or.inl ⟨rfl, funext u.2, rfl, j, hj, e⟩, tq_use⟩
    · rw [use_cell, if_neg (by omega), if_neg (by omega), if_neg (by omega), if_neg (by omega)]
    · rw [use_cell, if_neg (by omega), if_neg (by omega), if_neg (by omega), if_neg (by omega)]
  · have hno : ∀ j, j < f → ¬ spT g j = p := fun j hj e => c ⟨j, hj, e⟩
    rcases Nat.lt_or_ge f n with hf | hf
    · have u := cp_come C h16 hp hno (j := f) (Or.inl ⟨rfl, hf⟩)
      have nx := fun q => nx_come (j := f) C h16 hL hp (N q) hsi (h7 q) hno (Or.inl ⟨rfl, hf⟩)
      rw [if_pos rfl] at u nx
      refine ⟨f + 1, hd, 1, _, ms_miss C hs hp hno (room_free C hf) rfl, u.1, nx, fun k => ⟨?_, ?_⟩, Or.inr (Or.inl ⟨rfl, u.2, rfl, hf, hno⟩), tq_come (by omega) hp⟩
      · rw [come_cell (by omega), if_neg (by omega), if_neg (by omega), if_neg (by omega)]
      · rw [come_cell (by omega), if_neg (by omega), if_neg (by omega), if_neg (by omega)]
    · have ef : f = n := by omega
      subst ef
      obtain ⟨g1, v, hd', r1, r2, r3, r4, r5⟩ := room_some (pol := pol) C h16
      have s1 : spT g1 = spT g := funext r5
      have o6 : ∀ k, hI g1 336 k = hI g 336 k := fun k => r3.2.2.2.1 _ _ (by omega) (by omega)
      have o7 : ∀ k, hI g1 337 k = hI g 337 k := fun k => r3.2.2.2.1 _ _ (by omega) (by omega)
      have o9 : ∀ k, hI g1 339 k = hI g 339 k := fun k => r3.2.2.2.1 _ _ (by omega) (by omega)
      have hno1 : ∀ j, j < f → ¬ spT g1 j = p := by rw [s1]; exact hno
      have u := cp_come r4 h16 hp hno1 (j := v) (Or.inr r2)
      have n1 : pol = 98 → NX s L i f g1 := fun q j hj => by
        rw [o9, s1]
        exact N q j hj
      have nx := fun q => nx_come (j := v) r4 h16 hL hp (n1 q) hsi (by rw [o7]; exact h7 q) hno1 (Or.inr r2)
      rw [if_neg (by omega)] at u nx
      refine ⟨f, hd', 1, _, ms_miss C hs hp hno r1 (o6 i), u.1, nx, fun k => ⟨?_, ?_⟩, Or.inr (Or.inr ⟨rfl, rfl, rfl, v, r2, ?_, hno, fun q => ?_⟩), fun T => tq_come (by omega) hp (tq_hao r3 T)⟩
      · rw [come_cell (by omega), if_neg (by omega), if_neg (by omega), if_neg (by omega)]
        exact o6 k
      · rw [come_cell (by omega), if_neg (by omega), if_neg (by omega), if_neg (by omega)]
        exact o7 k
      · rw [u.2, s1]
      · rw [room_full C h16, if_pos q] at r1
        cases r1
        rfl
theorem far_nx {s : Nat → Nat} {L n hd i : Nat} {g : CH} (C : CP n n hd i g) (h16 : n ≤ 16) (hL : i < L) (h100 : L ≤ 100) (N : NX s L i n g) {v : Nat} (hv : v < n) (e : v = cFar g 335 n) : ∀ j, j < n → nxF s (spT g j) 100 (L - i) i ≤ nxF s (spT g v) 100 (L - i) i := fun j hj => by
  have z := far_max (g := g) n j hj
  rw [← e, N v hv, N j hj] at z
  have b1 := nxF_in (s := s) (p := spT g j) (d := 100) (L - i) i
  have b2 := nxF_in (s := s) (p := spT g v) (d := 100) (L - i) i
  exact Nat.le_of_not_lt (fun w => z (nI_lt w (by omega)))
